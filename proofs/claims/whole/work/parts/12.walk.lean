theorem dX12_door_0 : decode cX12_door 0 = .ok (.aload_n 0, 1) := by decide +kernel
theorem dX12_door_1 : decode cX12_door 1 = .ok (.iconst 0, 1) := by decide +kernel
theorem dX12_door_2 : decode cX12_door 2 = .ok (.putfield 71, 3) := by decide +kernel
theorem dX12_door_5 : decode cX12_door 5 = .ok (.aload_n 0, 1) := by decide +kernel
theorem dX12_door_6 : decode cX12_door 6 = .ok (.iload_n 1, 1) := by decide +kernel
theorem dX12_door_7 : decode cX12_door 7 = .ok (.invokevirtual 379, 3) := by decide +kernel
theorem dX12_door_10 : decode cX12_door 10 = .ok (.ifCond .eq 16, 3) := by decide +kernel
theorem dX12_door_13 : decode cX12_door 13 = .ok (.aload_n 0, 1) := by decide +kernel
theorem dX12_door_14 : decode cX12_door 14 = .ok (.iload_n 2, 1) := by decide +kernel
theorem dX12_door_15 : decode cX12_door 15 = .ok (.invokevirtual 379, 3) := by decide +kernel
theorem dX12_door_18 : decode cX12_door 18 = .ok (.ifCond .eq 8, 3) := by decide +kernel
theorem dX12_door_21 : decode cX12_door 21 = .ok (.iload_n 1, 1) := by decide +kernel
theorem dX12_door_22 : decode cX12_door 22 = .ok (.iload_n 2, 1) := by decide +kernel
theorem dX12_door_23 : decode cX12_door 23 = .ok (.if_icmp .ne 9, 3) := by decide +kernel
theorem dX12_door_26 : decode cX12_door 26 = .ok (.aload_n 0, 1) := by decide +kernel
theorem dX12_door_27 : decode cX12_door 27 = .ok (.iconst 1, 1) := by decide +kernel
theorem dX12_door_28 : decode cX12_door 28 = .ok (.invokevirtual 77, 3) := by decide +kernel
theorem dX12_door_31 : decode cX12_door 31 = .ok (.ireturn, 1) := by decide +kernel
theorem dX12_door_32 : decode cX12_door 32 = .ok (.aload_n 0, 1) := by decide +kernel
theorem dX12_door_33 : decode cX12_door 33 = .ok (.getfield 358, 3) := by decide +kernel
theorem dX12_door_36 : decode cX12_door 36 = .ok (.iload_n 1, 1) := by decide +kernel
theorem dX12_door_37 : decode cX12_door 37 = .ok (.iload_n 2, 1) := by decide +kernel
theorem dX12_door_38 : decode cX12_door 38 = .ok (.invokevirtual 301, 3) := by decide +kernel
theorem dX12_door_41 : decode cX12_door 41 = .ok (.istore_n 3, 1) := by decide +kernel
theorem dX12_door_42 : decode cX12_door 42 = .ok (.aload_n 0, 1) := by decide +kernel
theorem dX12_door_43 : decode cX12_door 43 = .ok (.iload_n 3, 1) := by decide +kernel
theorem dX12_door_44 : decode cX12_door 44 = .ok (.iconst (-1), 1) := by decide +kernel
theorem dX12_door_45 : decode cX12_door 45 = .ok (.if_icmp .ne 8, 3) := by decide +kernel
theorem dX12_door_48 : decode cX12_door 48 = .ok (.bipush (-2), 2) := by decide +kernel
theorem dX12_door_50 : decode cX12_door 50 = .ok (.goto 4, 3) := by decide +kernel
theorem dX12_door_53 : decode cX12_door 53 = .ok (.iload_n 3, 1) := by decide +kernel
theorem dX12_door_54 : decode cX12_door 54 = .ok (.invokevirtual 81, 3) := by decide +kernel
theorem dX12_door_57 : decode cX12_door 57 = .ok (.ireturn, 1) := by decide +kernel
theorem dX12_isDream_0 : decode cX12_isDream 0 = .ok (.aload_n 0, 1) := by decide +kernel
theorem dX12_isDream_1 : decode cX12_isDream 1 = .ok (.getfield 358, 3) := by decide +kernel
theorem dX12_isDream_4 : decode cX12_isDream 4 = .ok (.ifnull 22, 3) := by decide +kernel
theorem dX12_isDream_7 : decode cX12_isDream 7 = .ok (.iload_n 1, 1) := by decide +kernel
theorem dX12_isDream_8 : decode cX12_isDream 8 = .ok (.ifCond .lt 18, 3) := by decide +kernel
theorem dX12_isDream_11 : decode cX12_isDream 11 = .ok (.iload_n 1, 1) := by decide +kernel
theorem dX12_isDream_12 : decode cX12_isDream 12 = .ok (.aload_n 0, 1) := by decide +kernel
theorem dX12_isDream_13 : decode cX12_isDream 13 = .ok (.getfield 358, 3) := by decide +kernel
theorem dX12_isDream_16 : decode cX12_isDream 16 = .ok (.getfield 325, 3) := by decide +kernel
theorem dX12_isDream_19 : decode cX12_isDream 19 = .ok (.if_icmp .ge 7, 3) := by decide +kernel
theorem dX12_isDream_22 : decode cX12_isDream 22 = .ok (.iconst 1, 1) := by decide +kernel
theorem dX12_isDream_23 : decode cX12_isDream 23 = .ok (.goto 4, 3) := by decide +kernel
theorem dX12_isDream_26 : decode cX12_isDream 26 = .ok (.iconst 0, 1) := by decide +kernel
theorem dX12_isDream_27 : decode cX12_isDream 27 = .ok (.ireturn, 1) := by decide +kernel
theorem dX12_dream_0 : decode cX12_dream 0 = .ok (.aload_n 0, 1) := by decide +kernel
theorem dX12_dream_1 : decode cX12_dream 1 = .ok (.iconst 0, 1) := by decide +kernel
theorem dX12_dream_2 : decode cX12_dream 2 = .ok (.putfield 71, 3) := by decide +kernel
theorem dX12_dream_5 : decode cX12_dream 5 = .ok (.aload_n 0, 1) := by decide +kernel
theorem dX12_dream_6 : decode cX12_dream 6 = .ok (.iload_n 1, 1) := by decide +kernel
theorem dX12_dream_7 : decode cX12_dream 7 = .ok (.invokevirtual 382, 3) := by decide +kernel
theorem dX12_dream_10 : decode cX12_dream 10 = .ok (.ifCond .eq 21, 3) := by decide +kernel
theorem dX12_dream_13 : decode cX12_dream 13 = .ok (.iload_n 2, 1) := by decide +kernel
theorem dX12_dream_14 : decode cX12_dream 14 = .ok (.iconst 0, 1) := by decide +kernel
theorem dX12_dream_15 : decode cX12_dream 15 = .ok (.iconst 3, 1) := by decide +kernel
theorem dX12_dream_16 : decode cX12_dream 16 = .ok (.invokestatic 149, 3) := by decide +kernel
theorem dX12_dream_19 : decode cX12_dream 19 = .ok (.ifCond .eq 12, 3) := by decide +kernel
theorem dX12_dream_22 : decode cX12_dream 22 = .ok (.iload_n 3, 1) := by decide +kernel
theorem dX12_dream_23 : decode cX12_dream 23 = .ok (.iconst 0, 1) := by decide +kernel
theorem dX12_dream_24 : decode cX12_dream 24 = .ok (.iconst 3, 1) := by decide +kernel
theorem dX12_dream_25 : decode cX12_dream 25 = .ok (.invokestatic 149, 3) := by decide +kernel
theorem dX12_dream_28 : decode cX12_dream 28 = .ok (.ifCond .ne 9, 3) := by decide +kernel
theorem dX12_dream_31 : decode cX12_dream 31 = .ok (.aload_n 0, 1) := by decide +kernel
theorem dX12_dream_32 : decode cX12_dream 32 = .ok (.iconst 1, 1) := by decide +kernel
theorem dX12_dream_33 : decode cX12_dream 33 = .ok (.invokevirtual 77, 3) := by decide +kernel
theorem dX12_dream_36 : decode cX12_dream 36 = .ok (.ireturn, 1) := by decide +kernel
theorem dX12_dream_37 : decode cX12_dream 37 = .ok (.iconst 4, 1) := by decide +kernel
theorem dX12_dream_38 : decode cX12_dream 38 = .ok (.iload_n 1, 1) := by decide +kernel
theorem dX12_dream_39 : decode cX12_dream 39 = .ok (.imul, 1) := by decide +kernel
theorem dX12_dream_40 : decode cX12_dream 40 = .ok (.iload_n 2, 1) := by decide +kernel
theorem dX12_dream_41 : decode cX12_dream 41 = .ok (.iadd, 1) := by decide +kernel
theorem dX12_dream_42 : decode cX12_dream 42 = .ok (.istore 4, 2) := by decide +kernel
theorem dX12_dream_44 : decode cX12_dream 44 = .ok (.aload_n 0, 1) := by decide +kernel
theorem dX12_dream_45 : decode cX12_dream 45 = .ok (.getfield 358, 3) := by decide +kernel
theorem dX12_dream_48 : decode cX12_dream 48 = .ok (.getfield 328, 3) := by decide +kernel
theorem dX12_dream_51 : decode cX12_dream 51 = .ok (.iload 4, 2) := by decide +kernel
theorem dX12_dream_53 : decode cX12_dream 53 = .ok (.baload, 1) := by decide +kernel
theorem dX12_dream_54 : decode cX12_dream 54 = .ok (.ifCond .ne 10, 3) := by decide +kernel
theorem dX12_dream_57 : decode cX12_dream 57 = .ok (.aload_n 0, 1) := by decide +kernel
theorem dX12_dream_58 : decode cX12_dream 58 = .ok (.bipush 6, 2) := by decide +kernel
theorem dX12_dream_60 : decode cX12_dream 60 = .ok (.invokevirtual 77, 3) := by decide +kernel
theorem dX12_dream_63 : decode cX12_dream 63 = .ok (.ireturn, 1) := by decide +kernel
theorem dX12_dream_64 : decode cX12_dream 64 = .ok (.aload_n 0, 1) := by decide +kernel
theorem dX12_dream_65 : decode cX12_dream 65 = .ok (.iload_n 3, 1) := by decide +kernel
theorem dX12_dream_66 : decode cX12_dream 66 = .ok (.ifCond .ne 16, 3) := by decide +kernel
theorem dX12_dream_69 : decode cX12_dream 69 = .ok (.aload_n 0, 1) := by decide +kernel
theorem dX12_dream_70 : decode cX12_dream 70 = .ok (.getfield 358, 3) := by decide +kernel
theorem dX12_dream_73 : decode cX12_dream 73 = .ok (.getfield 331, 3) := by decide +kernel
theorem dX12_dream_76 : decode cX12_dream 76 = .ok (.iload 4, 2) := by decide +kernel
theorem dX12_dream_78 : decode cX12_dream 78 = .ok (.iaload, 1) := by decide +kernel
theorem dX12_dream_79 : decode cX12_dream 79 = .ok (.goto 49, 3) := by decide +kernel
theorem dX12_dream_82 : decode cX12_dream 82 = .ok (.iload_n 3, 1) := by decide +kernel
theorem dX12_dream_83 : decode cX12_dream 83 = .ok (.iconst 1, 1) := by decide +kernel
theorem dX12_dream_84 : decode cX12_dream 84 = .ok (.if_icmp .ne 16, 3) := by decide +kernel
theorem dX12_dream_87 : decode cX12_dream 87 = .ok (.aload_n 0, 1) := by decide +kernel
theorem dX12_dream_88 : decode cX12_dream 88 = .ok (.getfield 358, 3) := by decide +kernel
theorem dX12_dream_91 : decode cX12_dream 91 = .ok (.getfield 334, 3) := by decide +kernel
theorem dX12_dream_94 : decode cX12_dream 94 = .ok (.iload 4, 2) := by decide +kernel
theorem dX12_dream_96 : decode cX12_dream 96 = .ok (.iaload, 1) := by decide +kernel
theorem dX12_dream_97 : decode cX12_dream 97 = .ok (.goto 31, 3) := by decide +kernel
theorem dX12_dream_100 : decode cX12_dream 100 = .ok (.iload_n 3, 1) := by decide +kernel
theorem dX12_dream_101 : decode cX12_dream 101 = .ok (.iconst 2, 1) := by decide +kernel
theorem dX12_dream_102 : decode cX12_dream 102 = .ok (.if_icmp .ne 16, 3) := by decide +kernel
theorem dX12_dream_105 : decode cX12_dream 105 = .ok (.aload_n 0, 1) := by decide +kernel
theorem dX12_dream_106 : decode cX12_dream 106 = .ok (.getfield 358, 3) := by decide +kernel
theorem dX12_dream_109 : decode cX12_dream 109 = .ok (.getfield 335, 3) := by decide +kernel
theorem dX12_dream_112 : decode cX12_dream 112 = .ok (.iload 4, 2) := by decide +kernel
theorem dX12_dream_114 : decode cX12_dream 114 = .ok (.iaload, 1) := by decide +kernel
theorem dX12_dream_115 : decode cX12_dream 115 = .ok (.goto 13, 3) := by decide +kernel
theorem dX12_dream_118 : decode cX12_dream 118 = .ok (.aload_n 0, 1) := by decide +kernel
theorem dX12_dream_119 : decode cX12_dream 119 = .ok (.getfield 358, 3) := by decide +kernel
theorem dX12_dream_122 : decode cX12_dream 122 = .ok (.getfield 337, 3) := by decide +kernel
theorem dX12_dream_125 : decode cX12_dream 125 = .ok (.iload 4, 2) := by decide +kernel
theorem dX12_dream_127 : decode cX12_dream 127 = .ok (.iaload, 1) := by decide +kernel
theorem dX12_dream_128 : decode cX12_dream 128 = .ok (.invokevirtual 81, 3) := by decide +kernel
theorem dX12_dream_131 : decode cX12_dream 131 = .ok (.ireturn, 1) := by decide +kernel
theorem dX12_settings_0 : decode cX12_settings 0 = .ok (.iconst 1, 1) := by decide +kernel
theorem dX12_settings_1 : decode cX12_settings 1 = .ok (.iconst 2, 1) := by decide +kernel
theorem dX12_settings_2 : decode cX12_settings 2 = .ok (.aload_n 0, 1) := by decide +kernel
theorem dX12_settings_3 : decode cX12_settings 3 = .ok (.getfield 358, 3) := by decide +kernel
theorem dX12_settings_6 : decode cX12_settings 6 = .ok (.getfield 292, 3) := by decide +kernel
theorem dX12_settings_9 : decode cX12_settings 9 = .ok (.imul, 1) := by decide +kernel
theorem dX12_settings_10 : decode cX12_settings 10 = .ok (.iadd, 1) := by decide +kernel
theorem dX12_settings_11 : decode cX12_settings 11 = .ok (.ireturn, 1) := by decide +kernel
theorem dX12_isSetting_0 : decode cX12_isSetting 0 = .ok (.aload_n 0, 1) := by decide +kernel
theorem dX12_isSetting_1 : decode cX12_isSetting 1 = .ok (.getfield 358, 3) := by decide +kernel
theorem dX12_isSetting_4 : decode cX12_isSetting 4 = .ok (.ifnull 19, 3) := by decide +kernel
theorem dX12_isSetting_7 : decode cX12_isSetting 7 = .ok (.iload_n 1, 1) := by decide +kernel
theorem dX12_isSetting_8 : decode cX12_isSetting 8 = .ok (.ifCond .lt 15, 3) := by decide +kernel
theorem dX12_isSetting_11 : decode cX12_isSetting 11 = .ok (.iload_n 1, 1) := by decide +kernel
theorem dX12_isSetting_12 : decode cX12_isSetting 12 = .ok (.aload_n 0, 1) := by decide +kernel
theorem dX12_isSetting_13 : decode cX12_isSetting 13 = .ok (.invokevirtual 385, 3) := by decide +kernel
theorem dX12_isSetting_16 : decode cX12_isSetting 16 = .ok (.if_icmp .ge 7, 3) := by decide +kernel
theorem dX12_isSetting_19 : decode cX12_isSetting 19 = .ok (.iconst 1, 1) := by decide +kernel
theorem dX12_isSetting_20 : decode cX12_isSetting 20 = .ok (.goto 4, 3) := by decide +kernel
theorem dX12_isSetting_23 : decode cX12_isSetting 23 = .ok (.iconst 0, 1) := by decide +kernel
theorem dX12_isSetting_24 : decode cX12_isSetting 24 = .ok (.ireturn, 1) := by decide +kernel
theorem dX12_lockedDoors_0 : decode cX12_lockedDoors 0 = .ok (.iconst 0, 1) := by decide +kernel
theorem dX12_lockedDoors_1 : decode cX12_lockedDoors 1 = .ok (.istore_n 1, 1) := by decide +kernel
theorem dX12_lockedDoors_2 : decode cX12_lockedDoors 2 = .ok (.iconst 0, 1) := by decide +kernel
theorem dX12_lockedDoors_3 : decode cX12_lockedDoors 3 = .ok (.istore_n 2, 1) := by decide +kernel
theorem dX12_lockedDoors_4 : decode cX12_lockedDoors 4 = .ok (.iload_n 2, 1) := by decide +kernel
theorem dX12_lockedDoors_5 : decode cX12_lockedDoors 5 = .ok (.aload_n 0, 1) := by decide +kernel
theorem dX12_lockedDoors_6 : decode cX12_lockedDoors 6 = .ok (.getfield 358, 3) := by decide +kernel
theorem dX12_lockedDoors_9 : decode cX12_lockedDoors 9 = .ok (.getfield 292, 3) := by decide +kernel
theorem dX12_lockedDoors_12 : decode cX12_lockedDoors 12 = .ok (.if_icmp .ge 32, 3) := by decide +kernel
theorem dX12_lockedDoors_15 : decode cX12_lockedDoors 15 = .ok (.iload_n 1, 1) := by decide +kernel
theorem dX12_lockedDoors_16 : decode cX12_lockedDoors 16 = .ok (.aload_n 0, 1) := by decide +kernel
theorem dX12_lockedDoors_17 : decode cX12_lockedDoors 17 = .ok (.getfield 36, 3) := by decide +kernel
theorem dX12_lockedDoors_20 : decode cX12_lockedDoors 20 = .ok (.bipush 23, 2) := by decide +kernel
theorem dX12_lockedDoors_22 : decode cX12_lockedDoors 22 = .ok (.iload_n 2, 1) := by decide +kernel
theorem dX12_lockedDoors_23 : decode cX12_lockedDoors 23 = .ok (.iadd, 1) := by decide +kernel
theorem dX12_lockedDoors_24 : decode cX12_lockedDoors 24 = .ok (.iaload, 1) := by decide +kernel
theorem dX12_lockedDoors_25 : decode cX12_lockedDoors 25 = .ok (.iconst 2, 1) := by decide +kernel
theorem dX12_lockedDoors_26 : decode cX12_lockedDoors 26 = .ok (.if_icmp .ne 9, 3) := by decide +kernel
theorem dX12_lockedDoors_29 : decode cX12_lockedDoors 29 = .ok (.iconst 1, 1) := by decide +kernel
theorem dX12_lockedDoors_30 : decode cX12_lockedDoors 30 = .ok (.iload_n 2, 1) := by decide +kernel
theorem dX12_lockedDoors_31 : decode cX12_lockedDoors 31 = .ok (.ishl, 1) := by decide +kernel
theorem dX12_lockedDoors_32 : decode cX12_lockedDoors 32 = .ok (.goto 4, 3) := by decide +kernel
theorem dX12_lockedDoors_35 : decode cX12_lockedDoors 35 = .ok (.iconst 0, 1) := by decide +kernel
theorem dX12_lockedDoors_36 : decode cX12_lockedDoors 36 = .ok (.ior, 1) := by decide +kernel
theorem dX12_lockedDoors_37 : decode cX12_lockedDoors 37 = .ok (.istore_n 1, 1) := by decide +kernel
theorem dX12_lockedDoors_38 : decode cX12_lockedDoors 38 = .ok (.iinc 2 1, 3) := by decide +kernel
theorem dX12_lockedDoors_41 : decode cX12_lockedDoors 41 = .ok (.goto (-37), 3) := by decide +kernel
theorem dX12_lockedDoors_44 : decode cX12_lockedDoors 44 = .ok (.iload_n 1, 1) := by decide +kernel
theorem dX12_lockedDoors_45 : decode cX12_lockedDoors 45 = .ok (.ireturn, 1) := by decide +kernel
theorem dX12_stateOf_0 : decode cX12_stateOf 0 = .ok (.iconst 4, 1) := by decide +kernel
theorem dX12_stateOf_1 : decode cX12_stateOf 1 = .ok (.aload_n 0, 1) := by decide +kernel
theorem dX12_stateOf_2 : decode cX12_stateOf 2 = .ok (.getfield 36, 3) := by decide +kernel
theorem dX12_stateOf_5 : decode cX12_stateOf 5 = .ok (.bipush 12, 2) := by decide +kernel
theorem dX12_stateOf_7 : decode cX12_stateOf 7 = .ok (.iload_n 1, 1) := by decide +kernel
theorem dX12_stateOf_8 : decode cX12_stateOf 8 = .ok (.iadd, 1) := by decide +kernel
theorem dX12_stateOf_9 : decode cX12_stateOf 9 = .ok (.iaload, 1) := by decide +kernel
theorem dX12_stateOf_10 : decode cX12_stateOf 10 = .ok (.imul, 1) := by decide +kernel
theorem dX12_stateOf_11 : decode cX12_stateOf 11 = .ok (.aload_n 0, 1) := by decide +kernel
theorem dX12_stateOf_12 : decode cX12_stateOf 12 = .ok (.getfield 36, 3) := by decide +kernel
theorem dX12_stateOf_15 : decode cX12_stateOf 15 = .ok (.iconst 3, 1) := by decide +kernel
theorem dX12_stateOf_16 : decode cX12_stateOf 16 = .ok (.iload_n 1, 1) := by decide +kernel
theorem dX12_stateOf_17 : decode cX12_stateOf 17 = .ok (.iadd, 1) := by decide +kernel
theorem dX12_stateOf_18 : decode cX12_stateOf 18 = .ok (.iaload, 1) := by decide +kernel
theorem dX12_stateOf_19 : decode cX12_stateOf 19 = .ok (.iadd, 1) := by decide +kernel
theorem dX12_stateOf_20 : decode cX12_stateOf 20 = .ok (.ireturn, 1) := by decide +kernel
theorem dX12_meets_0 : decode cX12_meets 0 = .ok (.aload_n 0, 1) := by decide +kernel
theorem dX12_meets_1 : decode cX12_meets 1 = .ok (.iload_n 1, 1) := by decide +kernel
theorem dX12_meets_2 : decode cX12_meets 2 = .ok (.invokevirtual 388, 3) := by decide +kernel
theorem dX12_meets_5 : decode cX12_meets 5 = .ok (.istore_n 2, 1) := by decide +kernel
theorem dX12_meets_6 : decode cX12_meets 6 = .ok (.aload_n 0, 1) := by decide +kernel
theorem dX12_meets_7 : decode cX12_meets 7 = .ok (.getfield 358, 3) := by decide +kernel
theorem dX12_meets_10 : decode cX12_meets 10 = .ok (.getfield 328, 3) := by decide +kernel
theorem dX12_meets_13 : decode cX12_meets 13 = .ok (.iload_n 2, 1) := by decide +kernel
theorem dX12_meets_14 : decode cX12_meets 14 = .ok (.baload, 1) := by decide +kernel
theorem dX12_meets_15 : decode cX12_meets 15 = .ok (.ifCond .eq 34, 3) := by decide +kernel
theorem dX12_meets_18 : decode cX12_meets 18 = .ok (.aload_n 0, 1) := by decide +kernel
theorem dX12_meets_19 : decode cX12_meets 19 = .ok (.getfield 358, 3) := by decide +kernel
theorem dX12_meets_22 : decode cX12_meets 22 = .ok (.getfield 337, 3) := by decide +kernel
theorem dX12_meets_25 : decode cX12_meets 25 = .ok (.iload_n 2, 1) := by decide +kernel
theorem dX12_meets_26 : decode cX12_meets 26 = .ok (.iaload, 1) := by decide +kernel
theorem dX12_meets_27 : decode cX12_meets 27 = .ok (.bipush (-2), 2) := by decide +kernel
theorem dX12_meets_29 : decode cX12_meets 29 = .ok (.if_icmp .eq 20, 3) := by decide +kernel
theorem dX12_meets_32 : decode cX12_meets 32 = .ok (.aload_n 0, 1) := by decide +kernel
theorem dX12_meets_33 : decode cX12_meets 33 = .ok (.getfield 36, 3) := by decide +kernel
theorem dX12_meets_36 : decode cX12_meets 36 = .ok (.iconst 3, 1) := by decide +kernel
theorem dX12_meets_37 : decode cX12_meets 37 = .ok (.iload_n 1, 1) := by decide +kernel
theorem dX12_meets_38 : decode cX12_meets 38 = .ok (.iadd, 1) := by decide +kernel
theorem dX12_meets_39 : decode cX12_meets 39 = .ok (.aload_n 0, 1) := by decide +kernel
theorem dX12_meets_40 : decode cX12_meets 40 = .ok (.getfield 358, 3) := by decide +kernel
theorem dX12_meets_43 : decode cX12_meets 43 = .ok (.getfield 337, 3) := by decide +kernel
theorem dX12_meets_46 : decode cX12_meets 46 = .ok (.iload_n 2, 1) := by decide +kernel
theorem dX12_meets_47 : decode cX12_meets 47 = .ok (.iaload, 1) := by decide +kernel
theorem dX12_meets_48 : decode cX12_meets 48 = .ok (.iastore, 1) := by decide +kernel
theorem dX12_meets_49 : decode cX12_meets 49 = .ok (.return_, 1) := by decide +kernel
theorem dX12_creaksIn_0 : decode cX12_creaksIn 0 = .ok (.iconst 0, 1) := by decide +kernel
theorem dX12_creaksIn_1 : decode cX12_creaksIn 1 = .ok (.istore_n 2, 1) := by decide +kernel
theorem dX12_creaksIn_2 : decode cX12_creaksIn 2 = .ok (.iload_n 2, 1) := by decide +kernel
theorem dX12_creaksIn_3 : decode cX12_creaksIn 3 = .ok (.aload_n 0, 1) := by decide +kernel
theorem dX12_creaksIn_4 : decode cX12_creaksIn 4 = .ok (.getfield 358, 3) := by decide +kernel
theorem dX12_creaksIn_7 : decode cX12_creaksIn 7 = .ok (.getfield 346, 3) := by decide +kernel
theorem dX12_creaksIn_10 : decode cX12_creaksIn 10 = .ok (.if_icmp .ge 78, 3) := by decide +kernel
theorem dX12_creaksIn_13 : decode cX12_creaksIn 13 = .ok (.aload_n 0, 1) := by decide +kernel
theorem dX12_creaksIn_14 : decode cX12_creaksIn 14 = .ok (.getfield 358, 3) := by decide +kernel
theorem dX12_creaksIn_17 : decode cX12_creaksIn 17 = .ok (.getfield 287, 3) := by decide +kernel
theorem dX12_creaksIn_20 : decode cX12_creaksIn 20 = .ok (.iload_n 1, 1) := by decide +kernel
theorem dX12_creaksIn_21 : decode cX12_creaksIn 21 = .ok (.iaload, 1) := by decide +kernel
theorem dX12_creaksIn_22 : decode cX12_creaksIn 22 = .ok (.aload_n 0, 1) := by decide +kernel
theorem dX12_creaksIn_23 : decode cX12_creaksIn 23 = .ok (.getfield 17, 3) := by decide +kernel
theorem dX12_creaksIn_26 : decode cX12_creaksIn 26 = .ok (.bipush 8, 2) := by decide +kernel
theorem dX12_creaksIn_28 : decode cX12_creaksIn 28 = .ok (.iload_n 1, 1) := by decide +kernel
theorem dX12_creaksIn_29 : decode cX12_creaksIn 29 = .ok (.imul, 1) := by decide +kernel
theorem dX12_creaksIn_30 : decode cX12_creaksIn 30 = .ok (.aload_n 0, 1) := by decide +kernel
theorem dX12_creaksIn_31 : decode cX12_creaksIn 31 = .ok (.getfield 358, 3) := by decide +kernel
theorem dX12_creaksIn_34 : decode cX12_creaksIn 34 = .ok (.getfield 349, 3) := by decide +kernel
theorem dX12_creaksIn_37 : decode cX12_creaksIn 37 = .ok (.iload_n 2, 1) := by decide +kernel
theorem dX12_creaksIn_38 : decode cX12_creaksIn 38 = .ok (.iaload, 1) := by decide +kernel
theorem dX12_creaksIn_39 : decode cX12_creaksIn 39 = .ok (.iadd, 1) := by decide +kernel
theorem dX12_creaksIn_40 : decode cX12_creaksIn 40 = .ok (.iaload, 1) := by decide +kernel
theorem dX12_creaksIn_41 : decode cX12_creaksIn 41 = .ok (.if_icmp .gt 6, 3) := by decide +kernel
theorem dX12_creaksIn_44 : decode cX12_creaksIn 44 = .ok (.goto 38, 3) := by decide +kernel
theorem dX12_creaksIn_47 : decode cX12_creaksIn 47 = .ok (.aload_n 0, 1) := by decide +kernel
theorem dX12_creaksIn_48 : decode cX12_creaksIn 48 = .ok (.getfield 36, 3) := by decide +kernel
theorem dX12_creaksIn_51 : decode cX12_creaksIn 51 = .ok (.bipush 49, 2) := by decide +kernel
theorem dX12_creaksIn_53 : decode cX12_creaksIn 53 = .ok (.iaload, 1) := by decide +kernel
theorem dX12_creaksIn_54 : decode cX12_creaksIn 54 = .ok (.iconst 1, 1) := by decide +kernel
theorem dX12_creaksIn_55 : decode cX12_creaksIn 55 = .ok (.isub, 1) := by decide +kernel
theorem dX12_creaksIn_56 : decode cX12_creaksIn 56 = .ok (.istore_n 3, 1) := by decide +kernel
theorem dX12_creaksIn_57 : decode cX12_creaksIn 57 = .ok (.aload_n 0, 1) := by decide +kernel
theorem dX12_creaksIn_58 : decode cX12_creaksIn 58 = .ok (.getfield 36, 3) := by decide +kernel
theorem dX12_creaksIn_61 : decode cX12_creaksIn 61 = .ok (.bipush 43, 2) := by decide +kernel
theorem dX12_creaksIn_63 : decode cX12_creaksIn 63 = .ok (.iconst 2, 1) := by decide +kernel
theorem dX12_creaksIn_64 : decode cX12_creaksIn 64 = .ok (.iload_n 2, 1) := by decide +kernel
theorem dX12_creaksIn_65 : decode cX12_creaksIn 65 = .ok (.imul, 1) := by decide +kernel
theorem dX12_creaksIn_66 : decode cX12_creaksIn 66 = .ok (.iadd, 1) := by decide +kernel
theorem dX12_creaksIn_67 : decode cX12_creaksIn 67 = .ok (.iload_n 3, 1) := by decide +kernel
theorem dX12_creaksIn_68 : decode cX12_creaksIn 68 = .ok (.bipush 20, 2) := by decide +kernel
theorem dX12_creaksIn_70 : decode cX12_creaksIn 70 = .ok (.idiv, 1) := by decide +kernel
theorem dX12_creaksIn_71 : decode cX12_creaksIn 71 = .ok (.iadd, 1) := by decide +kernel
theorem dX12_creaksIn_72 : decode cX12_creaksIn 72 = .ok (.dup2, 1) := by decide +kernel
theorem dX12_creaksIn_73 : decode cX12_creaksIn 73 = .ok (.iaload, 1) := by decide +kernel
theorem dX12_creaksIn_74 : decode cX12_creaksIn 74 = .ok (.iconst 1, 1) := by decide +kernel
theorem dX12_creaksIn_75 : decode cX12_creaksIn 75 = .ok (.iload_n 3, 1) := by decide +kernel
theorem dX12_creaksIn_76 : decode cX12_creaksIn 76 = .ok (.bipush 20, 2) := by decide +kernel
theorem dX12_creaksIn_78 : decode cX12_creaksIn 78 = .ok (.irem, 1) := by decide +kernel
theorem dX12_creaksIn_79 : decode cX12_creaksIn 79 = .ok (.ishl, 1) := by decide +kernel
theorem dX12_creaksIn_80 : decode cX12_creaksIn 80 = .ok (.ior, 1) := by decide +kernel
theorem dX12_creaksIn_81 : decode cX12_creaksIn 81 = .ok (.iastore, 1) := by decide +kernel
theorem dX12_creaksIn_82 : decode cX12_creaksIn 82 = .ok (.iinc 2 1, 3) := by decide +kernel
theorem dX12_creaksIn_85 : decode cX12_creaksIn 85 = .ok (.goto (-83), 3) := by decide +kernel
theorem dX12_creaksIn_88 : decode cX12_creaksIn 88 = .ok (.return_, 1) := by decide +kernel
theorem dX12_goes_0 : decode cX12_goes 0 = .ok (.aload_n 0, 1) := by decide +kernel
theorem dX12_goes_1 : decode cX12_goes 1 = .ok (.getfield 36, 3) := by decide +kernel
theorem dX12_goes_4 : decode cX12_goes 4 = .ok (.iconst 0, 1) := by decide +kernel
theorem dX12_goes_5 : decode cX12_goes 5 = .ok (.iload_n 1, 1) := by decide +kernel
theorem dX12_goes_6 : decode cX12_goes 6 = .ok (.iadd, 1) := by decide +kernel
theorem dX12_goes_7 : decode cX12_goes 7 = .ok (.iaload, 1) := by decide +kernel
theorem dX12_goes_8 : decode cX12_goes 8 = .ok (.istore_n 3, 1) := by decide +kernel
theorem dX12_goes_9 : decode cX12_goes 9 = .ok (.aload_n 0, 1) := by decide +kernel
theorem dX12_goes_10 : decode cX12_goes 10 = .ok (.invokevirtual 391, 3) := by decide +kernel
theorem dX12_goes_13 : decode cX12_goes 13 = .ok (.istore 4, 2) := by decide +kernel
theorem dX12_goes_15 : decode cX12_goes 15 = .ok (.aload_n 0, 1) := by decide +kernel
theorem dX12_goes_16 : decode cX12_goes 16 = .ok (.iload_n 2, 1) := by decide +kernel
theorem dX12_goes_17 : decode cX12_goes 17 = .ok (.iload 4, 2) := by decide +kernel
theorem dX12_goes_19 : decode cX12_goes 19 = .ok (.invokevirtual 376, 3) := by decide +kernel
theorem dX12_goes_22 : decode cX12_goes 22 = .ok (.iconst (-1), 1) := by decide +kernel
theorem dX12_goes_23 : decode cX12_goes 23 = .ok (.istore 5, 2) := by decide +kernel
theorem dX12_goes_25 : decode cX12_goes 25 = .ok (.iconst 0, 1) := by decide +kernel
theorem dX12_goes_26 : decode cX12_goes 26 = .ok (.istore 6, 2) := by decide +kernel
theorem dX12_goes_28 : decode cX12_goes 28 = .ok (.iload 6, 2) := by decide +kernel
theorem dX12_goes_30 : decode cX12_goes 30 = .ok (.aload_n 0, 1) := by decide +kernel
theorem dX12_goes_31 : decode cX12_goes 31 = .ok (.getfield 358, 3) := by decide +kernel
theorem dX12_goes_34 : decode cX12_goes 34 = .ok (.getfield 244, 3) := by decide +kernel
theorem dX12_goes_37 : decode cX12_goes 37 = .ok (.if_icmp .ge 89, 3) := by decide +kernel
theorem dX12_goes_40 : decode cX12_goes 40 = .ok (.iload 6, 2) := by decide +kernel
theorem dX12_goes_42 : decode cX12_goes 42 = .ok (.iload_n 3, 1) := by decide +kernel
theorem dX12_goes_43 : decode cX12_goes 43 = .ok (.if_icmp .ne 7, 3) := by decide +kernel
theorem dX12_goes_46 : decode cX12_goes 46 = .ok (.iconst (-1), 1) := by decide +kernel
theorem dX12_goes_47 : decode cX12_goes 47 = .ok (.goto 13, 3) := by decide +kernel
theorem dX12_goes_50 : decode cX12_goes 50 = .ok (.aload_n 0, 1) := by decide +kernel
theorem dX12_goes_51 : decode cX12_goes 51 = .ok (.getfield 358, 3) := by decide +kernel
theorem dX12_goes_54 : decode cX12_goes 54 = .ok (.iload_n 3, 1) := by decide +kernel
theorem dX12_goes_55 : decode cX12_goes 55 = .ok (.iload 6, 2) := by decide +kernel
theorem dX12_goes_57 : decode cX12_goes 57 = .ok (.invokevirtual 301, 3) := by decide +kernel
theorem dX12_goes_60 : decode cX12_goes 60 = .ok (.istore 7, 2) := by decide +kernel
theorem dX12_goes_62 : decode cX12_goes 62 = .ok (.iload 7, 2) := by decide +kernel
theorem dX12_goes_64 : decode cX12_goes 64 = .ok (.iconst (-1), 1) := by decide +kernel
theorem dX12_goes_65 : decode cX12_goes 65 = .ok (.if_icmp .eq 55, 3) := by decide +kernel
theorem dX12_goes_68 : decode cX12_goes 68 = .ok (.iload 4, 2) := by decide +kernel
theorem dX12_goes_70 : decode cX12_goes 70 = .ok (.iload 7, 2) := by decide +kernel
theorem dX12_goes_72 : decode cX12_goes 72 = .ok (.invokestatic 372, 3) := by decide +kernel
theorem dX12_goes_75 : decode cX12_goes 75 = .ok (.ifCond .ne 45, 3) := by decide +kernel
theorem dX12_goes_78 : decode cX12_goes 78 = .ok (.aload_n 0, 1) := by decide +kernel
theorem dX12_goes_79 : decode cX12_goes 79 = .ok (.getfield 21, 3) := by decide +kernel
theorem dX12_goes_82 : decode cX12_goes 82 = .ok (.iload 6, 2) := by decide +kernel
theorem dX12_goes_84 : decode cX12_goes 84 = .ok (.iaload, 1) := by decide +kernel
theorem dX12_goes_85 : decode cX12_goes 85 = .ok (.bipush 99, 2) := by decide +kernel
theorem dX12_goes_87 : decode cX12_goes 87 = .ok (.if_icmp .ne 6, 3) := by decide +kernel
theorem dX12_goes_90 : decode cX12_goes 90 = .ok (.goto 30, 3) := by decide +kernel
theorem dX12_goes_93 : decode cX12_goes 93 = .ok (.iload 5, 2) := by decide +kernel
theorem dX12_goes_95 : decode cX12_goes 95 = .ok (.iconst (-1), 1) := by decide +kernel
theorem dX12_goes_96 : decode cX12_goes 96 = .ok (.if_icmp .eq 20, 3) := by decide +kernel
theorem dX12_goes_99 : decode cX12_goes 99 = .ok (.aload_n 0, 1) := by decide +kernel
theorem dX12_goes_100 : decode cX12_goes 100 = .ok (.getfield 21, 3) := by decide +kernel
theorem dX12_goes_103 : decode cX12_goes 103 = .ok (.iload 6, 2) := by decide +kernel
theorem dX12_goes_105 : decode cX12_goes 105 = .ok (.iaload, 1) := by decide +kernel
theorem dX12_goes_106 : decode cX12_goes 106 = .ok (.aload_n 0, 1) := by decide +kernel
theorem dX12_goes_107 : decode cX12_goes 107 = .ok (.getfield 21, 3) := by decide +kernel
theorem dX12_goes_110 : decode cX12_goes 110 = .ok (.iload 5, 2) := by decide +kernel
theorem dX12_goes_112 : decode cX12_goes 112 = .ok (.iaload, 1) := by decide +kernel
theorem dX12_goes_113 : decode cX12_goes 113 = .ok (.if_icmp .ge 7, 3) := by decide +kernel
theorem dX12_goes_116 : decode cX12_goes 116 = .ok (.iload 6, 2) := by decide +kernel
theorem dX12_goes_118 : decode cX12_goes 118 = .ok (.istore 5, 2) := by decide +kernel
theorem dX12_goes_120 : decode cX12_goes 120 = .ok (.iinc 6 1, 3) := by decide +kernel
theorem dX12_goes_123 : decode cX12_goes 123 = .ok (.goto (-95), 3) := by decide +kernel
theorem dX12_goes_126 : decode cX12_goes 126 = .ok (.iload 5, 2) := by decide +kernel
theorem dX12_goes_128 : decode cX12_goes 128 = .ok (.iconst (-1), 1) := by decide +kernel
theorem dX12_goes_129 : decode cX12_goes 129 = .ok (.if_icmp .ne 4, 3) := by decide +kernel
theorem dX12_goes_132 : decode cX12_goes 132 = .ok (.return_, 1) := by decide +kernel
theorem dX12_goes_133 : decode cX12_goes 133 = .ok (.aload_n 0, 1) := by decide +kernel
theorem dX12_goes_134 : decode cX12_goes 134 = .ok (.getfield 358, 3) := by decide +kernel
theorem dX12_goes_137 : decode cX12_goes 137 = .ok (.iload_n 3, 1) := by decide +kernel
theorem dX12_goes_138 : decode cX12_goes 138 = .ok (.iload 5, 2) := by decide +kernel
theorem dX12_goes_140 : decode cX12_goes 140 = .ok (.invokevirtual 301, 3) := by decide +kernel
theorem dX12_goes_143 : decode cX12_goes 143 = .ok (.istore 6, 2) := by decide +kernel
theorem dX12_goes_145 : decode cX12_goes 145 = .ok (.aload_n 0, 1) := by decide +kernel
theorem dX12_goes_146 : decode cX12_goes 146 = .ok (.getfield 36, 3) := by decide +kernel
theorem dX12_goes_149 : decode cX12_goes 149 = .ok (.bipush 23, 2) := by decide +kernel
theorem dX12_goes_151 : decode cX12_goes 151 = .ok (.iload 6, 2) := by decide +kernel
theorem dX12_goes_153 : decode cX12_goes 153 = .ok (.iadd, 1) := by decide +kernel
theorem dX12_goes_154 : decode cX12_goes 154 = .ok (.aload_n 0, 1) := by decide +kernel
theorem dX12_goes_155 : decode cX12_goes 155 = .ok (.getfield 358, 3) := by decide +kernel
theorem dX12_goes_158 : decode cX12_goes 158 = .ok (.getfield 313, 3) := by decide +kernel
theorem dX12_goes_161 : decode cX12_goes 161 = .ok (.iload 6, 2) := by decide +kernel
theorem dX12_goes_163 : decode cX12_goes 163 = .ok (.baload, 1) := by decide +kernel
theorem dX12_goes_164 : decode cX12_goes 164 = .ok (.ifCond .eq 7, 3) := by decide +kernel
theorem dX12_goes_167 : decode cX12_goes 167 = .ok (.iconst 1, 1) := by decide +kernel
theorem dX12_goes_168 : decode cX12_goes 168 = .ok (.goto 4, 3) := by decide +kernel
theorem dX12_goes_171 : decode cX12_goes 171 = .ok (.iconst 0, 1) := by decide +kernel
theorem dX12_goes_172 : decode cX12_goes 172 = .ok (.iastore, 1) := by decide +kernel
theorem dX12_goes_173 : decode cX12_goes 173 = .ok (.aload_n 0, 1) := by decide +kernel
theorem dX12_goes_174 : decode cX12_goes 174 = .ok (.getfield 36, 3) := by decide +kernel
theorem dX12_goes_177 : decode cX12_goes 177 = .ok (.bipush 33, 2) := by decide +kernel
theorem dX12_goes_179 : decode cX12_goes 179 = .ok (.iload 6, 2) := by decide +kernel
theorem dX12_goes_181 : decode cX12_goes 181 = .ok (.iadd, 1) := by decide +kernel
theorem dX12_goes_182 : decode cX12_goes 182 = .ok (.dup2, 1) := by decide +kernel
theorem dX12_goes_183 : decode cX12_goes 183 = .ok (.iaload, 1) := by decide +kernel
theorem dX12_goes_184 : decode cX12_goes 184 = .ok (.iconst 1, 1) := by decide +kernel
theorem dX12_goes_185 : decode cX12_goes 185 = .ok (.iadd, 1) := by decide +kernel
theorem dX12_goes_186 : decode cX12_goes 186 = .ok (.iastore, 1) := by decide +kernel
theorem dX12_goes_187 : decode cX12_goes 187 = .ok (.aload_n 0, 1) := by decide +kernel
theorem dX12_goes_188 : decode cX12_goes 188 = .ok (.getfield 36, 3) := by decide +kernel
theorem dX12_goes_191 : decode cX12_goes 191 = .ok (.iconst 0, 1) := by decide +kernel
theorem dX12_goes_192 : decode cX12_goes 192 = .ok (.iload_n 1, 1) := by decide +kernel
theorem dX12_goes_193 : decode cX12_goes 193 = .ok (.iadd, 1) := by decide +kernel
theorem dX12_goes_194 : decode cX12_goes 194 = .ok (.iload 5, 2) := by decide +kernel
theorem dX12_goes_196 : decode cX12_goes 196 = .ok (.iastore, 1) := by decide +kernel
theorem dX12_goes_197 : decode cX12_goes 197 = .ok (.aload_n 0, 1) := by decide +kernel
theorem dX12_goes_198 : decode cX12_goes 198 = .ok (.getfield 36, 3) := by decide +kernel
theorem dX12_goes_201 : decode cX12_goes 201 = .ok (.bipush 6, 2) := by decide +kernel
theorem dX12_goes_203 : decode cX12_goes 203 = .ok (.iload_n 1, 1) := by decide +kernel
theorem dX12_goes_204 : decode cX12_goes 204 = .ok (.iadd, 1) := by decide +kernel
theorem dX12_goes_205 : decode cX12_goes 205 = .ok (.iaload, 1) := by decide +kernel
theorem dX12_goes_206 : decode cX12_goes 206 = .ok (.bipush (-2), 2) := by decide +kernel
theorem dX12_goes_208 : decode cX12_goes 208 = .ok (.if_icmp .eq 22, 3) := by decide +kernel
theorem dX12_goes_211 : decode cX12_goes 211 = .ok (.aload_n 0, 1) := by decide +kernel
theorem dX12_goes_212 : decode cX12_goes 212 = .ok (.getfield 36, 3) := by decide +kernel
theorem dX12_goes_215 : decode cX12_goes 215 = .ok (.bipush 15, 2) := by decide +kernel
theorem dX12_goes_217 : decode cX12_goes 217 = .ok (.aload_n 0, 1) := by decide +kernel
theorem dX12_goes_218 : decode cX12_goes 218 = .ok (.getfield 36, 3) := by decide +kernel
theorem dX12_goes_221 : decode cX12_goes 221 = .ok (.bipush 6, 2) := by decide +kernel
theorem dX12_goes_223 : decode cX12_goes 223 = .ok (.iload_n 1, 1) := by decide +kernel
theorem dX12_goes_224 : decode cX12_goes 224 = .ok (.iadd, 1) := by decide +kernel
theorem dX12_goes_225 : decode cX12_goes 225 = .ok (.iaload, 1) := by decide +kernel
theorem dX12_goes_226 : decode cX12_goes 226 = .ok (.iadd, 1) := by decide +kernel
theorem dX12_goes_227 : decode cX12_goes 227 = .ok (.iload 5, 2) := by decide +kernel
theorem dX12_goes_229 : decode cX12_goes 229 = .ok (.iastore, 1) := by decide +kernel
theorem dX12_goes_230 : decode cX12_goes 230 = .ok (.aload_n 0, 1) := by decide +kernel
theorem dX12_goes_231 : decode cX12_goes 231 = .ok (.iload 5, 2) := by decide +kernel
theorem dX12_goes_233 : decode cX12_goes 233 = .ok (.invokevirtual 394, 3) := by decide +kernel
theorem dX12_goes_236 : decode cX12_goes 236 = .ok (.aload_n 0, 1) := by decide +kernel
theorem dX12_goes_237 : decode cX12_goes 237 = .ok (.getfield 358, 3) := by decide +kernel
theorem dX12_goes_240 : decode cX12_goes 240 = .ok (.getfield 289, 3) := by decide +kernel
theorem dX12_goes_243 : decode cX12_goes 243 = .ok (.iload 5, 2) := by decide +kernel
theorem dX12_goes_245 : decode cX12_goes 245 = .ok (.baload, 1) := by decide +kernel
theorem dX12_goes_246 : decode cX12_goes 246 = .ok (.ifCond .eq 14, 3) := by decide +kernel
theorem dX12_goes_249 : decode cX12_goes 249 = .ok (.aload_n 0, 1) := by decide +kernel
theorem dX12_goes_250 : decode cX12_goes 250 = .ok (.getfield 36, 3) := by decide +kernel
theorem dX12_goes_253 : decode cX12_goes 253 = .ok (.bipush 9, 2) := by decide +kernel
theorem dX12_goes_255 : decode cX12_goes 255 = .ok (.iload_n 1, 1) := by decide +kernel
theorem dX12_goes_256 : decode cX12_goes 256 = .ok (.iadd, 1) := by decide +kernel
theorem dX12_goes_257 : decode cX12_goes 257 = .ok (.iconst 1, 1) := by decide +kernel
theorem dX12_goes_258 : decode cX12_goes 258 = .ok (.iastore, 1) := by decide +kernel
theorem dX12_goes_259 : decode cX12_goes 259 = .ok (.return_, 1) := by decide +kernel
theorem dX12_goes_260 : decode cX12_goes 260 = .ok (.iconst 0, 1) := by decide +kernel
theorem dX12_goes_261 : decode cX12_goes 261 = .ok (.istore 7, 2) := by decide +kernel
theorem dX12_goes_263 : decode cX12_goes 263 = .ok (.iconst 0, 1) := by decide +kernel
theorem dX12_goes_264 : decode cX12_goes 264 = .ok (.istore 8, 2) := by decide +kernel
theorem dX12_goes_266 : decode cX12_goes 266 = .ok (.iload 8, 2) := by decide +kernel
theorem dX12_goes_268 : decode cX12_goes 268 = .ok (.aload_n 0, 1) := by decide +kernel
theorem dX12_goes_269 : decode cX12_goes 269 = .ok (.getfield 358, 3) := by decide +kernel
theorem dX12_goes_272 : decode cX12_goes 272 = .ok (.getfield 247, 3) := by decide +kernel
theorem dX12_goes_275 : decode cX12_goes 275 = .ok (.if_icmp .ge 55, 3) := by decide +kernel
theorem dX12_goes_278 : decode cX12_goes 278 = .ok (.iload 8, 2) := by decide +kernel
theorem dX12_goes_280 : decode cX12_goes 280 = .ok (.iload_n 1, 1) := by decide +kernel
theorem dX12_goes_281 : decode cX12_goes 281 = .ok (.if_icmp .eq 43, 3) := by decide +kernel
theorem dX12_goes_284 : decode cX12_goes 284 = .ok (.aload_n 0, 1) := by decide +kernel
theorem dX12_goes_285 : decode cX12_goes 285 = .ok (.getfield 36, 3) := by decide +kernel
theorem dX12_goes_288 : decode cX12_goes 288 = .ok (.bipush 9, 2) := by decide +kernel
theorem dX12_goes_290 : decode cX12_goes 290 = .ok (.iload 8, 2) := by decide +kernel
theorem dX12_goes_292 : decode cX12_goes 292 = .ok (.iadd, 1) := by decide +kernel
theorem dX12_goes_293 : decode cX12_goes 293 = .ok (.iaload, 1) := by decide +kernel
theorem dX12_goes_294 : decode cX12_goes 294 = .ok (.iconst 1, 1) := by decide +kernel
theorem dX12_goes_295 : decode cX12_goes 295 = .ok (.if_icmp .eq 29, 3) := by decide +kernel
theorem dX12_goes_298 : decode cX12_goes 298 = .ok (.aload_n 0, 1) := by decide +kernel
theorem dX12_goes_299 : decode cX12_goes 299 = .ok (.getfield 36, 3) := by decide +kernel
theorem dX12_goes_302 : decode cX12_goes 302 = .ok (.iconst 0, 1) := by decide +kernel
theorem dX12_goes_303 : decode cX12_goes 303 = .ok (.iload 8, 2) := by decide +kernel
theorem dX12_goes_305 : decode cX12_goes 305 = .ok (.iadd, 1) := by decide +kernel
theorem dX12_goes_306 : decode cX12_goes 306 = .ok (.iaload, 1) := by decide +kernel
theorem dX12_goes_307 : decode cX12_goes 307 = .ok (.iload 5, 2) := by decide +kernel
theorem dX12_goes_309 : decode cX12_goes 309 = .ok (.if_icmp .eq 6, 3) := by decide +kernel
theorem dX12_goes_312 : decode cX12_goes 312 = .ok (.goto 12, 3) := by decide +kernel
theorem dX12_goes_315 : decode cX12_goes 315 = .ok (.iconst 1, 1) := by decide +kernel
theorem dX12_goes_316 : decode cX12_goes 316 = .ok (.istore 7, 2) := by decide +kernel
theorem dX12_goes_318 : decode cX12_goes 318 = .ok (.aload_n 0, 1) := by decide +kernel
theorem dX12_goes_319 : decode cX12_goes 319 = .ok (.iload 8, 2) := by decide +kernel
theorem dX12_goes_321 : decode cX12_goes 321 = .ok (.invokevirtual 397, 3) := by decide +kernel
theorem dX12_goes_324 : decode cX12_goes 324 = .ok (.iinc 8 1, 3) := by decide +kernel
theorem dX12_goes_327 : decode cX12_goes 327 = .ok (.goto (-61), 3) := by decide +kernel
theorem dX12_goes_330 : decode cX12_goes 330 = .ok (.iload 7, 2) := by decide +kernel
theorem dX12_goes_332 : decode cX12_goes 332 = .ok (.ifCond .eq 8, 3) := by decide +kernel
theorem dX12_goes_335 : decode cX12_goes 335 = .ok (.aload_n 0, 1) := by decide +kernel
theorem dX12_goes_336 : decode cX12_goes 336 = .ok (.iload_n 1, 1) := by decide +kernel
theorem dX12_goes_337 : decode cX12_goes 337 = .ok (.invokevirtual 397, 3) := by decide +kernel
theorem dX12_goes_340 : decode cX12_goes 340 = .ok (.return_, 1) := by decide +kernel
theorem dX12_holder_0 : decode cX12_holder 0 = .ok (.iconst 0, 1) := by decide +kernel
theorem dX12_holder_1 : decode cX12_holder 1 = .ok (.istore_n 2, 1) := by decide +kernel
theorem dX12_holder_2 : decode cX12_holder 2 = .ok (.iload_n 2, 1) := by decide +kernel
theorem dX12_holder_3 : decode cX12_holder 3 = .ok (.aload_n 0, 1) := by decide +kernel
theorem dX12_holder_4 : decode cX12_holder 4 = .ok (.getfield 358, 3) := by decide +kernel
theorem dX12_holder_7 : decode cX12_holder 7 = .ok (.getfield 247, 3) := by decide +kernel
theorem dX12_holder_10 : decode cX12_holder 10 = .ok (.if_icmp .ge 24, 3) := by decide +kernel
theorem dX12_holder_13 : decode cX12_holder 13 = .ok (.aload_n 0, 1) := by decide +kernel
theorem dX12_holder_14 : decode cX12_holder 14 = .ok (.getfield 36, 3) := by decide +kernel
theorem dX12_holder_17 : decode cX12_holder 17 = .ok (.bipush 6, 2) := by decide +kernel
theorem dX12_holder_19 : decode cX12_holder 19 = .ok (.iload_n 2, 1) := by decide +kernel
theorem dX12_holder_20 : decode cX12_holder 20 = .ok (.iadd, 1) := by decide +kernel
theorem dX12_holder_21 : decode cX12_holder 21 = .ok (.iaload, 1) := by decide +kernel
theorem dX12_holder_22 : decode cX12_holder 22 = .ok (.iload_n 1, 1) := by decide +kernel
theorem dX12_holder_23 : decode cX12_holder 23 = .ok (.if_icmp .ne 5, 3) := by decide +kernel
theorem dX12_holder_26 : decode cX12_holder 26 = .ok (.iload_n 2, 1) := by decide +kernel
theorem dX12_holder_27 : decode cX12_holder 27 = .ok (.ireturn, 1) := by decide +kernel
theorem dX12_holder_28 : decode cX12_holder 28 = .ok (.iinc 2 1, 3) := by decide +kernel
theorem dX12_holder_31 : decode cX12_holder 31 = .ok (.goto (-29), 3) := by decide +kernel
theorem dX12_holder_34 : decode cX12_holder 34 = .ok (.bipush (-2), 2) := by decide +kernel
theorem dX12_holder_36 : decode cX12_holder 36 = .ok (.ireturn, 1) := by decide +kernel
theorem dX12_does_0 : decode cX12_does 0 = .ok (.aload_n 0, 1) := by decide +kernel
theorem dX12_does_1 : decode cX12_does 1 = .ok (.getfield 36, 3) := by decide +kernel
theorem dX12_does_4 : decode cX12_does 4 = .ok (.iconst 0, 1) := by decide +kernel
theorem dX12_does_5 : decode cX12_does 5 = .ok (.iload_n 1, 1) := by decide +kernel
theorem dX12_does_6 : decode cX12_does 6 = .ok (.iadd, 1) := by decide +kernel
theorem dX12_does_7 : decode cX12_does 7 = .ok (.iaload, 1) := by decide +kernel
theorem dX12_does_8 : decode cX12_does 8 = .ok (.istore 4, 2) := by decide +kernel
theorem dX12_does_10 : decode cX12_does 10 = .ok (.iload_n 2, 1) := by decide +kernel
theorem dX12_does_11 : decode cX12_does 11 = .ok (.iconst 1, 1) := by decide +kernel
theorem dX12_does_12 : decode cX12_does 12 = .ok (.if_icmp .ne 55, 3) := by decide +kernel
theorem dX12_does_15 : decode cX12_does 15 = .ok (.aload_n 0, 1) := by decide +kernel
theorem dX12_does_16 : decode cX12_does 16 = .ok (.getfield 36, 3) := by decide +kernel
theorem dX12_does_19 : decode cX12_does 19 = .ok (.bipush 15, 2) := by decide +kernel
theorem dX12_does_21 : decode cX12_does 21 = .ok (.iload_n 3, 1) := by decide +kernel
theorem dX12_does_22 : decode cX12_does 22 = .ok (.iadd, 1) := by decide +kernel
theorem dX12_does_23 : decode cX12_does 23 = .ok (.iaload, 1) := by decide +kernel
theorem dX12_does_24 : decode cX12_does 24 = .ok (.iload 4, 2) := by decide +kernel
theorem dX12_does_26 : decode cX12_does 26 = .ok (.if_icmp .ne 27, 3) := by decide +kernel
theorem dX12_does_29 : decode cX12_does 29 = .ok (.aload_n 0, 1) := by decide +kernel
theorem dX12_does_30 : decode cX12_does 30 = .ok (.iload_n 3, 1) := by decide +kernel
theorem dX12_does_31 : decode cX12_does 31 = .ok (.invokevirtual 400, 3) := by decide +kernel
theorem dX12_does_34 : decode cX12_does 34 = .ok (.bipush (-2), 2) := by decide +kernel
theorem dX12_does_36 : decode cX12_does 36 = .ok (.if_icmp .ne 17, 3) := by decide +kernel
theorem dX12_does_39 : decode cX12_does 39 = .ok (.aload_n 0, 1) := by decide +kernel
theorem dX12_does_40 : decode cX12_does 40 = .ok (.getfield 36, 3) := by decide +kernel
theorem dX12_does_43 : decode cX12_does 43 = .ok (.bipush 6, 2) := by decide +kernel
theorem dX12_does_45 : decode cX12_does 45 = .ok (.iload_n 1, 1) := by decide +kernel
theorem dX12_does_46 : decode cX12_does 46 = .ok (.iadd, 1) := by decide +kernel
theorem dX12_does_47 : decode cX12_does 47 = .ok (.iaload, 1) := by decide +kernel
theorem dX12_does_48 : decode cX12_does 48 = .ok (.bipush (-2), 2) := by decide +kernel
theorem dX12_does_50 : decode cX12_does 50 = .ok (.if_icmp .eq 5, 3) := by decide +kernel
theorem dX12_does_53 : decode cX12_does 53 = .ok (.iconst 0, 1) := by decide +kernel
theorem dX12_does_54 : decode cX12_does 54 = .ok (.ireturn, 1) := by decide +kernel
theorem dX12_does_55 : decode cX12_does 55 = .ok (.aload_n 0, 1) := by decide +kernel
theorem dX12_does_56 : decode cX12_does 56 = .ok (.getfield 36, 3) := by decide +kernel
theorem dX12_does_59 : decode cX12_does 59 = .ok (.bipush 6, 2) := by decide +kernel
theorem dX12_does_61 : decode cX12_does 61 = .ok (.iload_n 1, 1) := by decide +kernel
theorem dX12_does_62 : decode cX12_does 62 = .ok (.iadd, 1) := by decide +kernel
theorem dX12_does_63 : decode cX12_does 63 = .ok (.iload_n 3, 1) := by decide +kernel
theorem dX12_does_64 : decode cX12_does 64 = .ok (.iastore, 1) := by decide +kernel
theorem dX12_does_65 : decode cX12_does 65 = .ok (.iconst 1, 1) := by decide +kernel
theorem dX12_does_66 : decode cX12_does 66 = .ok (.ireturn, 1) := by decide +kernel
theorem dX12_does_67 : decode cX12_does 67 = .ok (.iload_n 2, 1) := by decide +kernel
theorem dX12_does_68 : decode cX12_does 68 = .ok (.iconst 2, 1) := by decide +kernel
theorem dX12_does_69 : decode cX12_does 69 = .ok (.if_icmp .ne 38, 3) := by decide +kernel
theorem dX12_does_72 : decode cX12_does 72 = .ok (.aload_n 0, 1) := by decide +kernel
theorem dX12_does_73 : decode cX12_does 73 = .ok (.getfield 36, 3) := by decide +kernel
theorem dX12_does_76 : decode cX12_does 76 = .ok (.bipush 6, 2) := by decide +kernel
theorem dX12_does_78 : decode cX12_does 78 = .ok (.iload_n 1, 1) := by decide +kernel
theorem dX12_does_79 : decode cX12_does 79 = .ok (.iadd, 1) := by decide +kernel
theorem dX12_does_80 : decode cX12_does 80 = .ok (.iaload, 1) := by decide +kernel
theorem dX12_does_81 : decode cX12_does 81 = .ok (.bipush (-2), 2) := by decide +kernel
theorem dX12_does_83 : decode cX12_does 83 = .ok (.if_icmp .eq 7, 3) := by decide +kernel
theorem dX12_does_86 : decode cX12_does 86 = .ok (.iconst 1, 1) := by decide +kernel
theorem dX12_does_87 : decode cX12_does 87 = .ok (.goto 4, 3) := by decide +kernel
theorem dX12_does_90 : decode cX12_does 90 = .ok (.iconst 0, 1) := by decide +kernel
theorem dX12_does_91 : decode cX12_does 91 = .ok (.istore 5, 2) := by decide +kernel
theorem dX12_does_93 : decode cX12_does 93 = .ok (.aload_n 0, 1) := by decide +kernel
theorem dX12_does_94 : decode cX12_does 94 = .ok (.getfield 36, 3) := by decide +kernel
theorem dX12_does_97 : decode cX12_does 97 = .ok (.bipush 6, 2) := by decide +kernel
theorem dX12_does_99 : decode cX12_does 99 = .ok (.iload_n 1, 1) := by decide +kernel
theorem dX12_does_100 : decode cX12_does 100 = .ok (.iadd, 1) := by decide +kernel
theorem dX12_does_101 : decode cX12_does 101 = .ok (.bipush (-2), 2) := by decide +kernel
theorem dX12_does_103 : decode cX12_does 103 = .ok (.iastore, 1) := by decide +kernel
theorem dX12_does_104 : decode cX12_does 104 = .ok (.iload 5, 2) := by decide +kernel
theorem dX12_does_106 : decode cX12_does 106 = .ok (.ireturn, 1) := by decide +kernel
theorem dX12_does_107 : decode cX12_does 107 = .ok (.iload_n 2, 1) := by decide +kernel
theorem dX12_does_108 : decode cX12_does 108 = .ok (.iconst 3, 1) := by decide +kernel
theorem dX12_does_109 : decode cX12_does 109 = .ok (.if_icmp .ne 43, 3) := by decide +kernel
theorem dX12_does_112 : decode cX12_does 112 = .ok (.aload_n 0, 1) := by decide +kernel
theorem dX12_does_113 : decode cX12_does 113 = .ok (.getfield 36, 3) := by decide +kernel
theorem dX12_does_116 : decode cX12_does 116 = .ok (.bipush 15, 2) := by decide +kernel
theorem dX12_does_118 : decode cX12_does 118 = .ok (.iload_n 3, 1) := by decide +kernel
theorem dX12_does_119 : decode cX12_does 119 = .ok (.iadd, 1) := by decide +kernel
theorem dX12_does_120 : decode cX12_does 120 = .ok (.iaload, 1) := by decide +kernel
theorem dX12_does_121 : decode cX12_does 121 = .ok (.iload 4, 2) := by decide +kernel
theorem dX12_does_123 : decode cX12_does 123 = .ok (.if_icmp .ne 15, 3) := by decide +kernel
theorem dX12_does_126 : decode cX12_does 126 = .ok (.aload_n 0, 1) := by decide +kernel
theorem dX12_does_127 : decode cX12_does 127 = .ok (.getfield 36, 3) := by decide +kernel
theorem dX12_does_130 : decode cX12_does 130 = .ok (.bipush 19, 2) := by decide +kernel
theorem dX12_does_132 : decode cX12_does 132 = .ok (.iload_n 3, 1) := by decide +kernel
theorem dX12_does_133 : decode cX12_does 133 = .ok (.iadd, 1) := by decide +kernel
theorem dX12_does_134 : decode cX12_does 134 = .ok (.iaload, 1) := by decide +kernel
theorem dX12_does_135 : decode cX12_does 135 = .ok (.ifCond .ne 5, 3) := by decide +kernel
theorem dX12_does_138 : decode cX12_does 138 = .ok (.iconst 0, 1) := by decide +kernel
theorem dX12_does_139 : decode cX12_does 139 = .ok (.ireturn, 1) := by decide +kernel
theorem dX12_does_140 : decode cX12_does 140 = .ok (.aload_n 0, 1) := by decide +kernel
theorem dX12_does_141 : decode cX12_does 141 = .ok (.getfield 36, 3) := by decide +kernel
theorem dX12_does_144 : decode cX12_does 144 = .ok (.bipush 19, 2) := by decide +kernel
theorem dX12_does_146 : decode cX12_does 146 = .ok (.iload_n 3, 1) := by decide +kernel
theorem dX12_does_147 : decode cX12_does 147 = .ok (.iadd, 1) := by decide +kernel
theorem dX12_does_148 : decode cX12_does 148 = .ok (.iconst 0, 1) := by decide +kernel
theorem dX12_does_149 : decode cX12_does 149 = .ok (.iastore, 1) := by decide +kernel
theorem dX12_does_150 : decode cX12_does 150 = .ok (.iconst 1, 1) := by decide +kernel
theorem dX12_does_151 : decode cX12_does 151 = .ok (.ireturn, 1) := by decide +kernel
theorem dX12_does_152 : decode cX12_does 152 = .ok (.iload_n 2, 1) := by decide +kernel
theorem dX12_does_153 : decode cX12_does 153 = .ok (.iconst 4, 1) := by decide +kernel
theorem dX12_does_154 : decode cX12_does 154 = .ok (.if_icmp .ne 5, 3) := by decide +kernel
theorem dX12_does_157 : decode cX12_does 157 = .ok (.iconst 1, 1) := by decide +kernel
theorem dX12_does_158 : decode cX12_does 158 = .ok (.ireturn, 1) := by decide +kernel
theorem dX12_does_159 : decode cX12_does 159 = .ok (.iload 4, 2) := by decide +kernel
theorem dX12_does_161 : decode cX12_does 161 = .ok (.iload_n 3, 1) := by decide +kernel
theorem dX12_does_162 : decode cX12_does 162 = .ok (.if_icmp .ne 7, 3) := by decide +kernel
theorem dX12_does_165 : decode cX12_does 165 = .ok (.iconst (-1), 1) := by decide +kernel
theorem dX12_does_166 : decode cX12_does 166 = .ok (.goto 13, 3) := by decide +kernel
theorem dX12_does_169 : decode cX12_does 169 = .ok (.aload_n 0, 1) := by decide +kernel
theorem dX12_does_170 : decode cX12_does 170 = .ok (.getfield 358, 3) := by decide +kernel
theorem dX12_does_173 : decode cX12_does 173 = .ok (.iload 4, 2) := by decide +kernel
theorem dX12_does_175 : decode cX12_does 175 = .ok (.iload_n 3, 1) := by decide +kernel
theorem dX12_does_176 : decode cX12_does 176 = .ok (.invokevirtual 301, 3) := by decide +kernel
theorem dX12_does_179 : decode cX12_does 179 = .ok (.istore 5, 2) := by decide +kernel
theorem dX12_does_181 : decode cX12_does 181 = .ok (.iload 5, 2) := by decide +kernel
theorem dX12_does_183 : decode cX12_does 183 = .ok (.iconst (-1), 1) := by decide +kernel
theorem dX12_does_184 : decode cX12_does 184 = .ok (.if_icmp .eq 16, 3) := by decide +kernel
theorem dX12_does_187 : decode cX12_does 187 = .ok (.aload_n 0, 1) := by decide +kernel
theorem dX12_does_188 : decode cX12_does 188 = .ok (.getfield 36, 3) := by decide +kernel
theorem dX12_does_191 : decode cX12_does 191 = .ok (.bipush 23, 2) := by decide +kernel
theorem dX12_does_193 : decode cX12_does 193 = .ok (.iload 5, 2) := by decide +kernel
theorem dX12_does_195 : decode cX12_does 195 = .ok (.iadd, 1) := by decide +kernel
theorem dX12_does_196 : decode cX12_does 196 = .ok (.iaload, 1) := by decide +kernel
theorem dX12_does_197 : decode cX12_does 197 = .ok (.ifCond .eq 5, 3) := by decide +kernel
theorem dX12_does_200 : decode cX12_does 200 = .ok (.iconst 0, 1) := by decide +kernel
theorem dX12_does_201 : decode cX12_does 201 = .ok (.ireturn, 1) := by decide +kernel
theorem dX12_does_202 : decode cX12_does 202 = .ok (.aload_n 0, 1) := by decide +kernel
theorem dX12_does_203 : decode cX12_does 203 = .ok (.getfield 36, 3) := by decide +kernel
theorem dX12_does_206 : decode cX12_does 206 = .ok (.bipush 23, 2) := by decide +kernel
theorem dX12_does_208 : decode cX12_does 208 = .ok (.iload 5, 2) := by decide +kernel
theorem dX12_does_210 : decode cX12_does 210 = .ok (.iadd, 1) := by decide +kernel
theorem dX12_does_211 : decode cX12_does 211 = .ok (.iconst 1, 1) := by decide +kernel
theorem dX12_does_212 : decode cX12_does 212 = .ok (.iastore, 1) := by decide +kernel
theorem dX12_does_213 : decode cX12_does 213 = .ok (.iconst 1, 1) := by decide +kernel
theorem dX12_does_214 : decode cX12_does 214 = .ok (.ireturn, 1) := by decide +kernel
theorem dX12_acts_0 : decode cX12_acts 0 = .ok (.aload_n 0, 1) := by decide +kernel
theorem dX12_acts_1 : decode cX12_acts 1 = .ok (.iload_n 1, 1) := by decide +kernel
theorem dX12_acts_2 : decode cX12_acts 2 = .ok (.invokevirtual 388, 3) := by decide +kernel
theorem dX12_acts_5 : decode cX12_acts 5 = .ok (.istore_n 2, 1) := by decide +kernel
theorem dX12_acts_6 : decode cX12_acts 6 = .ok (.aload_n 0, 1) := by decide +kernel
theorem dX12_acts_7 : decode cX12_acts 7 = .ok (.getfield 358, 3) := by decide +kernel
theorem dX12_acts_10 : decode cX12_acts 10 = .ok (.getfield 328, 3) := by decide +kernel
theorem dX12_acts_13 : decode cX12_acts 13 = .ok (.iload_n 2, 1) := by decide +kernel
theorem dX12_acts_14 : decode cX12_acts 14 = .ok (.baload, 1) := by decide +kernel
theorem dX12_acts_15 : decode cX12_acts 15 = .ok (.ifCond .ne 4, 3) := by decide +kernel
theorem dX12_acts_18 : decode cX12_acts 18 = .ok (.return_, 1) := by decide +kernel
theorem dX12_acts_19 : decode cX12_acts 19 = .ok (.aload_n 0, 1) := by decide +kernel
theorem dX12_acts_20 : decode cX12_acts 20 = .ok (.getfield 358, 3) := by decide +kernel
theorem dX12_acts_23 : decode cX12_acts 23 = .ok (.getfield 331, 3) := by decide +kernel
theorem dX12_acts_26 : decode cX12_acts 26 = .ok (.iload_n 2, 1) := by decide +kernel
theorem dX12_acts_27 : decode cX12_acts 27 = .ok (.iaload, 1) := by decide +kernel
theorem dX12_acts_28 : decode cX12_acts 28 = .ok (.ifCond .ne 40, 3) := by decide +kernel
theorem dX12_acts_31 : decode cX12_acts 31 = .ok (.aload_n 0, 1) := by decide +kernel
theorem dX12_acts_32 : decode cX12_acts 32 = .ok (.getfield 36, 3) := by decide +kernel
theorem dX12_acts_35 : decode cX12_acts 35 = .ok (.iconst 0, 1) := by decide +kernel
theorem dX12_acts_36 : decode cX12_acts 36 = .ok (.iload_n 1, 1) := by decide +kernel
theorem dX12_acts_37 : decode cX12_acts 37 = .ok (.iadd, 1) := by decide +kernel
theorem dX12_acts_38 : decode cX12_acts 38 = .ok (.iaload, 1) := by decide +kernel
theorem dX12_acts_39 : decode cX12_acts 39 = .ok (.aload_n 0, 1) := by decide +kernel
theorem dX12_acts_40 : decode cX12_acts 40 = .ok (.getfield 358, 3) := by decide +kernel
theorem dX12_acts_43 : decode cX12_acts 43 = .ok (.getfield 334, 3) := by decide +kernel
theorem dX12_acts_46 : decode cX12_acts 46 = .ok (.iload_n 2, 1) := by decide +kernel
theorem dX12_acts_47 : decode cX12_acts 47 = .ok (.iaload, 1) := by decide +kernel
theorem dX12_acts_48 : decode cX12_acts 48 = .ok (.if_icmp .eq 20, 3) := by decide +kernel
theorem dX12_acts_51 : decode cX12_acts 51 = .ok (.aload_n 0, 1) := by decide +kernel
theorem dX12_acts_52 : decode cX12_acts 52 = .ok (.iload_n 1, 1) := by decide +kernel
theorem dX12_acts_53 : decode cX12_acts 53 = .ok (.aload_n 0, 1) := by decide +kernel
theorem dX12_acts_54 : decode cX12_acts 54 = .ok (.getfield 358, 3) := by decide +kernel
theorem dX12_acts_57 : decode cX12_acts 57 = .ok (.getfield 334, 3) := by decide +kernel
theorem dX12_acts_60 : decode cX12_acts 60 = .ok (.iload_n 2, 1) := by decide +kernel
theorem dX12_acts_61 : decode cX12_acts 61 = .ok (.iaload, 1) := by decide +kernel
theorem dX12_acts_62 : decode cX12_acts 62 = .ok (.invokevirtual 403, 3) := by decide +kernel
theorem dX12_acts_65 : decode cX12_acts 65 = .ok (.goto 58, 3) := by decide +kernel
theorem dX12_acts_68 : decode cX12_acts 68 = .ok (.aload_n 0, 1) := by decide +kernel
theorem dX12_acts_69 : decode cX12_acts 69 = .ok (.getfield 358, 3) := by decide +kernel
theorem dX12_acts_72 : decode cX12_acts 72 = .ok (.getfield 331, 3) := by decide +kernel
theorem dX12_acts_75 : decode cX12_acts 75 = .ok (.iload_n 2, 1) := by decide +kernel
theorem dX12_acts_76 : decode cX12_acts 76 = .ok (.iaload, 1) := by decide +kernel
theorem dX12_acts_77 : decode cX12_acts 77 = .ok (.ifCond .eq 29, 3) := by decide +kernel
theorem dX12_acts_80 : decode cX12_acts 80 = .ok (.aload_n 0, 1) := by decide +kernel
theorem dX12_acts_81 : decode cX12_acts 81 = .ok (.iload_n 1, 1) := by decide +kernel
theorem dX12_acts_82 : decode cX12_acts 82 = .ok (.aload_n 0, 1) := by decide +kernel
theorem dX12_acts_83 : decode cX12_acts 83 = .ok (.getfield 358, 3) := by decide +kernel
theorem dX12_acts_86 : decode cX12_acts 86 = .ok (.getfield 331, 3) := by decide +kernel
theorem dX12_acts_89 : decode cX12_acts 89 = .ok (.iload_n 2, 1) := by decide +kernel
theorem dX12_acts_90 : decode cX12_acts 90 = .ok (.iaload, 1) := by decide +kernel
theorem dX12_acts_91 : decode cX12_acts 91 = .ok (.aload_n 0, 1) := by decide +kernel
theorem dX12_acts_92 : decode cX12_acts 92 = .ok (.getfield 358, 3) := by decide +kernel
theorem dX12_acts_95 : decode cX12_acts 95 = .ok (.getfield 334, 3) := by decide +kernel
theorem dX12_acts_98 : decode cX12_acts 98 = .ok (.iload_n 2, 1) := by decide +kernel
theorem dX12_acts_99 : decode cX12_acts 99 = .ok (.iaload, 1) := by decide +kernel
theorem dX12_acts_100 : decode cX12_acts 100 = .ok (.invokevirtual 406, 3) := by decide +kernel
theorem dX12_acts_103 : decode cX12_acts 103 = .ok (.ifCond .eq 20, 3) := by decide +kernel
theorem dX12_acts_106 : decode cX12_acts 106 = .ok (.aload_n 0, 1) := by decide +kernel
theorem dX12_acts_107 : decode cX12_acts 107 = .ok (.getfield 36, 3) := by decide +kernel
theorem dX12_acts_110 : decode cX12_acts 110 = .ok (.iconst 3, 1) := by decide +kernel
theorem dX12_acts_111 : decode cX12_acts 111 = .ok (.iload_n 1, 1) := by decide +kernel
theorem dX12_acts_112 : decode cX12_acts 112 = .ok (.iadd, 1) := by decide +kernel
theorem dX12_acts_113 : decode cX12_acts 113 = .ok (.aload_n 0, 1) := by decide +kernel
theorem dX12_acts_114 : decode cX12_acts 114 = .ok (.getfield 358, 3) := by decide +kernel
theorem dX12_acts_117 : decode cX12_acts 117 = .ok (.getfield 335, 3) := by decide +kernel
theorem dX12_acts_120 : decode cX12_acts 120 = .ok (.iload_n 2, 1) := by decide +kernel
theorem dX12_acts_121 : decode cX12_acts 121 = .ok (.iaload, 1) := by decide +kernel
theorem dX12_acts_122 : decode cX12_acts 122 = .ok (.iastore, 1) := by decide +kernel
theorem dX12_acts_123 : decode cX12_acts 123 = .ok (.return_, 1) := by decide +kernel
theorem dX12_passes_0 : decode cX12_passes 0 = .ok (.aload_n 0, 1) := by decide +kernel
theorem dX12_passes_1 : decode cX12_passes 1 = .ok (.getfield 36, 3) := by decide +kernel
theorem dX12_passes_4 : decode cX12_passes 4 = .ok (.bipush 49, 2) := by decide +kernel
theorem dX12_passes_6 : decode cX12_passes 6 = .ok (.dup2, 1) := by decide +kernel
theorem dX12_passes_7 : decode cX12_passes 7 = .ok (.iaload, 1) := by decide +kernel
theorem dX12_passes_8 : decode cX12_passes 8 = .ok (.iconst 1, 1) := by decide +kernel
theorem dX12_passes_9 : decode cX12_passes 9 = .ok (.iadd, 1) := by decide +kernel
theorem dX12_passes_10 : decode cX12_passes 10 = .ok (.iastore, 1) := by decide +kernel
theorem dX12_passes_11 : decode cX12_passes 11 = .ok (.iconst 0, 1) := by decide +kernel
theorem dX12_passes_12 : decode cX12_passes 12 = .ok (.istore_n 1, 1) := by decide +kernel
theorem dX12_passes_13 : decode cX12_passes 13 = .ok (.iload_n 1, 1) := by decide +kernel
theorem dX12_passes_14 : decode cX12_passes 14 = .ok (.aload_n 0, 1) := by decide +kernel
theorem dX12_passes_15 : decode cX12_passes 15 = .ok (.getfield 358, 3) := by decide +kernel
theorem dX12_passes_18 : decode cX12_passes 18 = .ok (.getfield 247, 3) := by decide +kernel
theorem dX12_passes_21 : decode cX12_passes 21 = .ok (.if_icmp .ge 26, 3) := by decide +kernel
theorem dX12_passes_24 : decode cX12_passes 24 = .ok (.aload_n 0, 1) := by decide +kernel
theorem dX12_passes_25 : decode cX12_passes 25 = .ok (.getfield 36, 3) := by decide +kernel
theorem dX12_passes_28 : decode cX12_passes 28 = .ok (.bipush 9, 2) := by decide +kernel
theorem dX12_passes_30 : decode cX12_passes 30 = .ok (.iload_n 1, 1) := by decide +kernel
theorem dX12_passes_31 : decode cX12_passes 31 = .ok (.iadd, 1) := by decide +kernel
theorem dX12_passes_32 : decode cX12_passes 32 = .ok (.iaload, 1) := by decide +kernel
theorem dX12_passes_33 : decode cX12_passes 33 = .ok (.ifCond .ne 8, 3) := by decide +kernel
theorem dX12_passes_36 : decode cX12_passes 36 = .ok (.aload_n 0, 1) := by decide +kernel
theorem dX12_passes_37 : decode cX12_passes 37 = .ok (.iload_n 1, 1) := by decide +kernel
theorem dX12_passes_38 : decode cX12_passes 38 = .ok (.invokevirtual 409, 3) := by decide +kernel
theorem dX12_passes_41 : decode cX12_passes 41 = .ok (.iinc 1 1, 3) := by decide +kernel
theorem dX12_passes_44 : decode cX12_passes 44 = .ok (.goto (-31), 3) := by decide +kernel
theorem dX12_passes_47 : decode cX12_passes 47 = .ok (.return_, 1) := by decide +kernel
theorem dX12_nightfall_0 : decode cX12_nightfall 0 = .ok (.aload_n 0, 1) := by decide +kernel
theorem dX12_nightfall_1 : decode cX12_nightfall 1 = .ok (.iconst 0, 1) := by decide +kernel
theorem dX12_nightfall_2 : decode cX12_nightfall 2 = .ok (.putfield 71, 3) := by decide +kernel
theorem dX12_nightfall_5 : decode cX12_nightfall 5 = .ok (.aload_n 0, 1) := by decide +kernel
theorem dX12_nightfall_6 : decode cX12_nightfall 6 = .ok (.iload_n 1, 1) := by decide +kernel
theorem dX12_nightfall_7 : decode cX12_nightfall 7 = .ok (.invokevirtual 412, 3) := by decide +kernel
theorem dX12_nightfall_10 : decode cX12_nightfall 10 = .ok (.ifCond .ne 9, 3) := by decide +kernel
theorem dX12_nightfall_13 : decode cX12_nightfall 13 = .ok (.aload_n 0, 1) := by decide +kernel
theorem dX12_nightfall_14 : decode cX12_nightfall 14 = .ok (.iconst 1, 1) := by decide +kernel
theorem dX12_nightfall_15 : decode cX12_nightfall 15 = .ok (.invokevirtual 415, 3) := by decide +kernel
theorem dX12_nightfall_18 : decode cX12_nightfall 18 = .ok (.ireturn, 1) := by decide +kernel
theorem dX12_nightfall_19 : decode cX12_nightfall 19 = .ok (.aload_n 0, 1) := by decide +kernel
theorem dX12_nightfall_20 : decode cX12_nightfall 20 = .ok (.iload_n 1, 1) := by decide +kernel
theorem dX12_nightfall_21 : decode cX12_nightfall 21 = .ok (.invokevirtual 369, 3) := by decide +kernel
theorem dX12_nightfall_24 : decode cX12_nightfall 24 = .ok (.iconst 0, 1) := by decide +kernel
theorem dX12_nightfall_25 : decode cX12_nightfall 25 = .ok (.istore_n 2, 1) := by decide +kernel
theorem dX12_nightfall_26 : decode cX12_nightfall 26 = .ok (.iload_n 2, 1) := by decide +kernel
theorem dX12_nightfall_27 : decode cX12_nightfall 27 = .ok (.aload_n 0, 1) := by decide +kernel
theorem dX12_nightfall_28 : decode cX12_nightfall 28 = .ok (.getfield 358, 3) := by decide +kernel
theorem dX12_nightfall_31 : decode cX12_nightfall 31 = .ok (.getfield 247, 3) := by decide +kernel
theorem dX12_nightfall_34 : decode cX12_nightfall 34 = .ok (.if_icmp .ge 24, 3) := by decide +kernel
theorem dX12_nightfall_37 : decode cX12_nightfall 37 = .ok (.aload_n 0, 1) := by decide +kernel
theorem dX12_nightfall_38 : decode cX12_nightfall 38 = .ok (.getfield 36, 3) := by decide +kernel
theorem dX12_nightfall_41 : decode cX12_nightfall 41 = .ok (.bipush 12, 2) := by decide +kernel
theorem dX12_nightfall_43 : decode cX12_nightfall 43 = .ok (.iload_n 2, 1) := by decide +kernel
theorem dX12_nightfall_44 : decode cX12_nightfall 44 = .ok (.iadd, 1) := by decide +kernel
theorem dX12_nightfall_45 : decode cX12_nightfall 45 = .ok (.aload_n 0, 1) := by decide +kernel
theorem dX12_nightfall_46 : decode cX12_nightfall 46 = .ok (.getfield 33, 3) := by decide +kernel
theorem dX12_nightfall_49 : decode cX12_nightfall 49 = .ok (.iload_n 2, 1) := by decide +kernel
theorem dX12_nightfall_50 : decode cX12_nightfall 50 = .ok (.iaload, 1) := by decide +kernel
theorem dX12_nightfall_51 : decode cX12_nightfall 51 = .ok (.iastore, 1) := by decide +kernel
theorem dX12_nightfall_52 : decode cX12_nightfall 52 = .ok (.iinc 2 1, 3) := by decide +kernel
theorem dX12_nightfall_55 : decode cX12_nightfall 55 = .ok (.goto (-29), 3) := by decide +kernel
theorem dX12_nightfall_58 : decode cX12_nightfall 58 = .ok (.aload_n 0, 1) := by decide +kernel
theorem dX12_nightfall_59 : decode cX12_nightfall 59 = .ok (.invokevirtual 418, 3) := by decide +kernel
theorem dX12_nightfall_62 : decode cX12_nightfall 62 = .ok (.ireturn, 1) := by decide +kernel
def wX12_door (E : EN) (h h_inn h_tape h_far h_from h_real h_other h_kept h_set h_w h_book h_noteSort h_whose h_what h_noteIs h_fitting h_dawn h_likes h_walked h_came h_inn_creak h_inn_doorA h_inn_doorB h_inn_how h_inn_lies h_inn_isCold h_inn_falls h_inn_isFull h_inn_isTold h_inn_act h_inn_what h_inn_then h_inn_met h_inn_bed h_inn_dream h_inn_listens h_inn_name h_inn_nameSort h_inn_nameNumber : Nat) (v_thrown : Int32) (v_trouble : Int32) (v_where : Int32) (v_read : Option Nat) (v_taped : Int32) (v_size : Int32) (v_at : Int32) (v_sort : Int32) (v_place : Int32) (v_sign : Int32) (v_number : Int32) (v_fault : Int32) (v_wrongAt : Int32) (v_word : Int64) (v_marks : Int32) (v_notes : Int32) (v_inn_minutes : Int32) (v_inn_rooms : Int32) (v_inn_doors : Int32) (v_inn_things : Int32) (v_inn_dreams : Int32) (v_inn_sleepers : Int32) (v_inn_listeners : Int32) (v_inn_names : Int32) (v_inn_doorA : Nat → Int32) (v_inn_doorB : Nat → Int32) : va_W := [(h, .inr (11, [.int v_thrown, .int v_trouble, .int v_where, .ref h_inn, va_rf v_read, .ref h_tape, .int v_taped, .int v_size, .int v_at, .int v_sort, .int v_place, .int v_sign, .int v_number, .int v_fault, .int v_wrongAt, .long v_word, .ref h_far, .ref h_from, .ref h_real, .ref h_other, .ref h_kept, .ref h_set, .ref h_w, .int v_marks, .int v_notes, .ref h_book, .ref h_noteSort, .ref h_whose, .ref h_what, .ref h_noteIs, .ref h_fitting, .ref h_dawn, .ref h_likes, .ref h_walked, .ref h_came])), (h_inn, .inr (10, [.int v_inn_minutes, .int v_inn_rooms, .int v_inn_doors, .int v_inn_things, .int v_inn_dreams, .int v_inn_sleepers, .int v_inn_listeners, .int v_inn_names, .ref h_inn_creak, .ref h_inn_doorA, .ref h_inn_doorB, .ref h_inn_how, .ref h_inn_lies, .ref h_inn_isCold, .ref h_inn_falls, .ref h_inn_isFull, .ref h_inn_isTold, .ref h_inn_act, .ref h_inn_what, .ref h_inn_then, .ref h_inn_met, .ref h_inn_bed, .ref h_inn_dream, .ref h_inn_listens, .ref h_inn_name, .ref h_inn_nameSort, .ref h_inn_nameNumber])), (h_inn_doorA, aI E 10 v_inn_doorA), (h_inn_doorB, aI E 10 v_inn_doorB)]
def fX12_door (N : Nat) (p0 : Int32) (p1 : Int32) (v_inn_rooms : Int32) (v_inn_doors : Int32) (v_inn_doorA : Nat → Int32) (v_inn_doorB : Nat → Int32) : Option (Int32 × Int32 × Int32 × Int32) := (fX12_isRoom N p0 v_inn_rooms).bind (un1 fun (r_7 : Int32) => if r_7 = 0 then ((fX12_refused N 1).bind (un3 fun (r_28 : Int32) (v_trouble_28 : Int32) (v_where_28 : Int32) => some (r_28, 0, v_trouble_28, v_where_28))) else ((fX12_isRoom N p1 v_inn_rooms).bind (un1 fun (r_15 : Int32) => if r_15 = 0 then ((fX12_refused N 1).bind (un3 fun (r_28 : Int32) (v_trouble_28 : Int32) (v_where_28 : Int32) => some (r_28, 0, v_trouble_28, v_where_28))) else (if p0 = p1 then ((fX12_refused N 1).bind (un3 fun (r_28 : Int32) (v_trouble_28 : Int32) (v_where_28 : Int32) => some (r_28, 0, v_trouble_28, v_where_28))) else ((fX11_between N p0 p1 v_inn_doors v_inn_doorA v_inn_doorB).bind (un1 fun (r_38 : Int32) => if r_38 = (-1) then ((fX12_good N (-2)).bind (un3 fun (r_54 : Int32) (v_trouble_54 : Int32) (v_where_54 : Int32) => some (r_54, 0, v_trouble_54, v_where_54))) else ((fX12_good N r_38).bind (un3 fun (r_54 : Int32) (v_trouble_54 : Int32) (v_where_54 : Int32) => some (r_54, 0, v_trouble_54, v_where_54)))))))))
set_option maxHeartbeats 4000000 in
set_option maxRecDepth 100000 in
theorem ctX12_door (l : Launch) (E : EN) (h h_inn h_tape h_far h_from h_real h_other h_kept h_set h_w h_book h_noteSort h_whose h_what h_noteIs h_fitting h_dawn h_likes h_walked h_came h_inn_creak h_inn_doorA h_inn_doorB h_inn_how h_inn_lies h_inn_isCold h_inn_falls h_inn_isFull h_inn_isTold h_inn_act h_inn_what h_inn_then h_inn_met h_inn_bed h_inn_dream h_inn_listens h_inn_name h_inn_nameSort h_inn_nameNumber : Nat) (v_thrown : Int32) (v_trouble : Int32) (v_where : Int32) (v_read : Option Nat) (v_taped : Int32) (v_size : Int32) (v_at : Int32) (v_sort : Int32) (v_place : Int32) (v_sign : Int32) (v_number : Int32) (v_fault : Int32) (v_wrongAt : Int32) (v_word : Int64) (v_marks : Int32) (v_notes : Int32) (v_inn_minutes : Int32) (v_inn_rooms : Int32) (v_inn_doors : Int32) (v_inn_things : Int32) (v_inn_dreams : Int32) (v_inn_sleepers : Int32) (v_inn_listeners : Int32) (v_inn_names : Int32) (v_inn_doorA : Nat → Int32) (v_inn_doorB : Nat → Int32) (N : Nat) (p0 : Int32) (p1 : Int32) (z : Int32 × Int32 × Int32 × Int32) (hf : fX12_door N p0 p1 v_inn_rooms v_inn_doors v_inn_doorA v_inn_doorB = some z) : CTi l E yX12_door cX12_door 4 .int 1 23 [.ref h, .int p0, .int p1] (wX12_door E h h_inn h_tape h_far h_from h_real h_other h_kept h_set h_w h_book h_noteSort h_whose h_what h_noteIs h_fitting h_dawn h_likes h_walked h_came h_inn_creak h_inn_doorA h_inn_doorB h_inn_how h_inn_lies h_inn_isCold h_inn_falls h_inn_isFull h_inn_isTold h_inn_act h_inn_what h_inn_then h_inn_met h_inn_bed h_inn_dream h_inn_listens h_inn_name h_inn_nameSort h_inn_nameNumber v_thrown v_trouble v_where v_read v_taped v_size v_at v_sort v_place v_sign v_number v_fault v_wrongAt v_word v_marks v_notes v_inn_minutes v_inn_rooms v_inn_doors v_inn_things v_inn_dreams v_inn_sleepers v_inn_listeners v_inn_names v_inn_doorA v_inn_doorB) (z.1) (wX12_door E h h_inn h_tape h_far h_from h_real h_other h_kept h_set h_w h_book h_noteSort h_whose h_what h_noteIs h_fitting h_dawn h_likes h_walked h_came h_inn_creak h_inn_doorA h_inn_doorB h_inn_how h_inn_lies h_inn_isCold h_inn_falls h_inn_isFull h_inn_isTold h_inn_act h_inn_what h_inn_then h_inn_met h_inn_bed h_inn_dream h_inn_listens h_inn_name h_inn_nameSort h_inn_nameNumber z.2.1 z.2.2.1 z.2.2.2 v_read v_taped v_size v_at v_sort v_place v_sign v_number v_fault v_wrongAt v_word v_marks v_notes v_inn_minutes v_inn_rooms v_inn_doors v_inn_things v_inn_dreams v_inn_sleepers v_inn_listeners v_inn_names v_inn_doorA v_inn_doorB) := by
  intro sz
  refine ct_body (by decide) (Nat.le_of_ble_eq_true rfl) ?_
  intro p e s m args below meth c A ls hAe C hr hin hP hD hS hl
  have C : CX p s m args meth c cX12_door RX12 4 E A := C
  have hl : lv_has ls 4 [(0, .ref h), (1, .int p0), (2, .int p1)] := hl
  have hx := C.1
  have hb := C.2.1
  rw [hAe]
  clear hAe
  obtain ⟨Q, hQ⟩ : ∃ Q, Q = MQ below (Qi E A (z.1) (wX12_door E h h_inn h_tape h_far h_from h_real h_other h_kept h_set h_w h_book h_noteSort h_whose h_what h_noteIs h_fitting h_dawn h_likes h_walked h_came h_inn_creak h_inn_doorA h_inn_doorB h_inn_how h_inn_lies h_inn_isCold h_inn_falls h_inn_isFull h_inn_isTold h_inn_act h_inn_what h_inn_then h_inn_met h_inn_bed h_inn_dream h_inn_listens h_inn_name h_inn_nameSort h_inn_nameNumber z.2.1 z.2.2.1 z.2.2.2 v_read v_taped v_size v_at v_sort v_place v_sign v_number v_fault v_wrongAt v_word v_marks v_notes v_inn_minutes v_inn_rooms v_inn_doors v_inn_things v_inn_dreams v_inn_sleepers v_inn_listeners v_inn_names v_inn_doorA v_inn_doorB)) args s 0 0 A := ⟨_, rfl⟩
  rw [← hQ]
  unfold fX12_door at hf
  refine lv_aload_n (pc := 0) hx hb dX12_door_0 rfl (lv_at hl 0 rfl) ?_
  refine lv_iconst (pc := 1) (v := 0) hx hb dX12_door_1 (by decide) ?_
  refine r_put (pc := 2) (ws' := (wX12_door E h h_inn h_tape h_far h_from h_real h_other h_kept h_set h_w h_book h_noteSort h_whose h_what h_noteIs h_fitting h_dawn h_likes h_walked h_came h_inn_creak h_inn_doorA h_inn_doorB h_inn_how h_inn_lies h_inn_isCold h_inn_falls h_inn_isFull h_inn_isTold h_inn_act h_inn_what h_inn_then h_inn_met h_inn_bed h_inn_dream h_inn_listens h_inn_name h_inn_nameSort h_inn_nameNumber 0 v_trouble v_where v_read v_taped v_size v_at v_sort v_place v_sign v_number v_fault v_wrongAt v_word v_marks v_notes v_inn_minutes v_inn_rooms v_inn_doors v_inn_things v_inn_dreams v_inn_sleepers v_inn_listeners v_inn_names v_inn_doorA v_inn_doorB)) C hP hD hS 0 rfl fl_X12_71 rfl rfl (Nat.le_of_ble_eq_true rfl) rfl dX12_door_2 ?_
  clear hP hD hS; intro H locs hP hD hS
  refine lv_aload_n (pc := 5) hx hb dX12_door_5 rfl (lv_at hl 0 rfl) ?_
  refine lv_iload_n (pc := 6) hx hb dX12_door_6 rfl (lv_at hl 1 rfl) ?_
  obtain ⟨r_7, hc_7, hf⟩ := bd1 hf
  refine r_dalVi (pc := 7) (ws' := (wX12_door E h h_inn h_tape h_far h_from h_real h_other h_kept h_set h_w h_book h_noteSort h_whose h_what h_noteIs h_fitting h_dawn h_likes h_walked h_came h_inn_creak h_inn_doorA h_inn_doorB h_inn_how h_inn_lies h_inn_isCold h_inn_falls h_inn_isFull h_inn_isTold h_inn_act h_inn_what h_inn_then h_inn_met h_inn_bed h_inn_dream h_inn_listens h_inn_name h_inn_nameSort h_inn_nameNumber 0 v_trouble v_where v_read v_taped v_size v_at v_sort v_place v_sign v_number v_fault v_wrongAt v_word v_marks v_notes v_inn_minutes v_inn_rooms v_inn_doors v_inn_things v_inn_dreams v_inn_sleepers v_inn_listeners v_inn_names v_inn_doorA v_inn_doorB)) (As := [.int p0]) (rest := []) C (ctX12_isRoom l E h h_inn h_tape h_far h_from h_real h_other h_kept h_set h_w h_book h_noteSort h_whose h_what h_noteIs h_fitting h_dawn h_likes h_walked h_came h_inn_creak h_inn_doorA h_inn_doorB h_inn_how h_inn_lies h_inn_isCold h_inn_falls h_inn_isFull h_inn_isTold h_inn_act h_inn_what h_inn_then h_inn_met h_inn_bed h_inn_dream h_inn_listens h_inn_name h_inn_nameSort h_inn_nameNumber 0 v_trouble v_where v_read v_taped v_size v_at v_sort v_place v_sign v_number v_fault v_wrongAt v_word v_marks v_notes v_inn_minutes v_inn_rooms v_inn_doors v_inn_things v_inn_dreams v_inn_sleepers v_inn_listeners v_inn_names N p0 r_7 hc_7) ml_X12_379 ⟨Nat.le_of_ble_eq_true rfl, Nat.le_of_ble_eq_true rfl⟩ hP hD hS 0 rfl rfl rfl [0, 1] [4, 5, 2, 3] 4 rfl rfl rfl rfl rfl rfl rfl hl.1 rfl (Nat.le_of_ble_eq_true rfl) ⟨Nat.zero_le _, Nat.zero_le _⟩ dX12_door_7 ?_
  clear hP hD hS; intro H locs hP hD hS
  refine lv_if_eq (pc := 10) (tgt := 26) hx hb dX12_door_10 (by decide) (fun c_10 => ?_) (fun c_10 => ?_)
  · replace hf := it_t c_10 hf
    refine lv_aload_n (pc := 26) hx hb dX12_door_26 rfl (lv_at hl 0 rfl) ?_
    refine lv_iconst (pc := 27) (v := 1) hx hb dX12_door_27 (by decide) ?_
    obtain ⟨r_28, v_trouble_28, v_where_28, hc_28, hf⟩ := bd3 hf
    refine r_dalVi (pc := 28) (ws' := (wX12_door E h h_inn h_tape h_far h_from h_real h_other h_kept h_set h_w h_book h_noteSort h_whose h_what h_noteIs h_fitting h_dawn h_likes h_walked h_came h_inn_creak h_inn_doorA h_inn_doorB h_inn_how h_inn_lies h_inn_isCold h_inn_falls h_inn_isFull h_inn_isTold h_inn_act h_inn_what h_inn_then h_inn_met h_inn_bed h_inn_dream h_inn_listens h_inn_name h_inn_nameSort h_inn_nameNumber 0 v_trouble_28 v_where_28 v_read v_taped v_size v_at v_sort v_place v_sign v_number v_fault v_wrongAt v_word v_marks v_notes v_inn_minutes v_inn_rooms v_inn_doors v_inn_things v_inn_dreams v_inn_sleepers v_inn_listeners v_inn_names v_inn_doorA v_inn_doorB)) (As := [.int 1]) (rest := []) C (ctX12_refused l E h h_tape h_far h_from h_real h_other h_kept h_set h_w h_book h_noteSort h_whose h_what h_noteIs h_fitting h_dawn h_likes h_walked h_came 0 v_trouble v_where (some h_inn) v_read v_taped v_size v_at v_sort v_place v_sign v_number v_fault v_wrongAt v_word v_marks v_notes N 1 (r_28, v_trouble_28, v_where_28) hc_28) ml_X12_77 ⟨Nat.le_of_ble_eq_true rfl, Nat.le_of_ble_eq_true rfl⟩ hP hD hS 0 rfl rfl rfl [0] [4, 1, 2, 3] 4 rfl rfl rfl rfl rfl rfl rfl hl.1 rfl (Nat.le_of_ble_eq_true rfl) ⟨Nat.zero_le _, Nat.zero_le _⟩ dX12_door_28 ?_
    clear hP hD hS; intro H locs hP hD hS
    cases hf
    rw [hQ]
    exact r_iret C hr hP hD hS rfl dX12_door_31
  · replace hf := it_f c_10 hf
    refine lv_aload_n (pc := 13) hx hb dX12_door_13 rfl (lv_at hl 0 rfl) ?_
    refine lv_iload_n (pc := 14) hx hb dX12_door_14 rfl (lv_at hl 2 rfl) ?_
    obtain ⟨r_15, hc_15, hf⟩ := bd1 hf
    refine r_dalVi (pc := 15) (ws' := (wX12_door E h h_inn h_tape h_far h_from h_real h_other h_kept h_set h_w h_book h_noteSort h_whose h_what h_noteIs h_fitting h_dawn h_likes h_walked h_came h_inn_creak h_inn_doorA h_inn_doorB h_inn_how h_inn_lies h_inn_isCold h_inn_falls h_inn_isFull h_inn_isTold h_inn_act h_inn_what h_inn_then h_inn_met h_inn_bed h_inn_dream h_inn_listens h_inn_name h_inn_nameSort h_inn_nameNumber 0 v_trouble v_where v_read v_taped v_size v_at v_sort v_place v_sign v_number v_fault v_wrongAt v_word v_marks v_notes v_inn_minutes v_inn_rooms v_inn_doors v_inn_things v_inn_dreams v_inn_sleepers v_inn_listeners v_inn_names v_inn_doorA v_inn_doorB)) (As := [.int p1]) (rest := []) C (ctX12_isRoom l E h h_inn h_tape h_far h_from h_real h_other h_kept h_set h_w h_book h_noteSort h_whose h_what h_noteIs h_fitting h_dawn h_likes h_walked h_came h_inn_creak h_inn_doorA h_inn_doorB h_inn_how h_inn_lies h_inn_isCold h_inn_falls h_inn_isFull h_inn_isTold h_inn_act h_inn_what h_inn_then h_inn_met h_inn_bed h_inn_dream h_inn_listens h_inn_name h_inn_nameSort h_inn_nameNumber 0 v_trouble v_where v_read v_taped v_size v_at v_sort v_place v_sign v_number v_fault v_wrongAt v_word v_marks v_notes v_inn_minutes v_inn_rooms v_inn_doors v_inn_things v_inn_dreams v_inn_sleepers v_inn_listeners v_inn_names N p1 r_15 hc_15) ml_X12_379 ⟨Nat.le_of_ble_eq_true rfl, Nat.le_of_ble_eq_true rfl⟩ hP hD hS 0 rfl rfl rfl [0, 1] [4, 5, 2, 3] 4 rfl rfl rfl rfl rfl rfl rfl hl.1 rfl (Nat.le_of_ble_eq_true rfl) ⟨Nat.zero_le _, Nat.zero_le _⟩ dX12_door_15 ?_
    clear hP hD hS; intro H locs hP hD hS
    refine lv_if_eq (pc := 18) (tgt := 26) hx hb dX12_door_18 (by decide) (fun c_18 => ?_) (fun c_18 => ?_)
    · replace hf := it_t c_18 hf
      refine lv_aload_n (pc := 26) hx hb dX12_door_26 rfl (lv_at hl 0 rfl) ?_
      refine lv_iconst (pc := 27) (v := 1) hx hb dX12_door_27 (by decide) ?_
      obtain ⟨r_28, v_trouble_28, v_where_28, hc_28, hf⟩ := bd3 hf
      refine r_dalVi (pc := 28) (ws' := (wX12_door E h h_inn h_tape h_far h_from h_real h_other h_kept h_set h_w h_book h_noteSort h_whose h_what h_noteIs h_fitting h_dawn h_likes h_walked h_came h_inn_creak h_inn_doorA h_inn_doorB h_inn_how h_inn_lies h_inn_isCold h_inn_falls h_inn_isFull h_inn_isTold h_inn_act h_inn_what h_inn_then h_inn_met h_inn_bed h_inn_dream h_inn_listens h_inn_name h_inn_nameSort h_inn_nameNumber 0 v_trouble_28 v_where_28 v_read v_taped v_size v_at v_sort v_place v_sign v_number v_fault v_wrongAt v_word v_marks v_notes v_inn_minutes v_inn_rooms v_inn_doors v_inn_things v_inn_dreams v_inn_sleepers v_inn_listeners v_inn_names v_inn_doorA v_inn_doorB)) (As := [.int 1]) (rest := []) C (ctX12_refused l E h h_tape h_far h_from h_real h_other h_kept h_set h_w h_book h_noteSort h_whose h_what h_noteIs h_fitting h_dawn h_likes h_walked h_came 0 v_trouble v_where (some h_inn) v_read v_taped v_size v_at v_sort v_place v_sign v_number v_fault v_wrongAt v_word v_marks v_notes N 1 (r_28, v_trouble_28, v_where_28) hc_28) ml_X12_77 ⟨Nat.le_of_ble_eq_true rfl, Nat.le_of_ble_eq_true rfl⟩ hP hD hS 0 rfl rfl rfl [0] [4, 1, 2, 3] 4 rfl rfl rfl rfl rfl rfl rfl hl.1 rfl (Nat.le_of_ble_eq_true rfl) ⟨Nat.zero_le _, Nat.zero_le _⟩ dX12_door_28 ?_
      clear hP hD hS; intro H locs hP hD hS
      cases hf
      rw [hQ]
      exact r_iret C hr hP hD hS rfl dX12_door_31
    · replace hf := it_f c_18 hf
      refine lv_iload_n (pc := 21) hx hb dX12_door_21 rfl (lv_at hl 1 rfl) ?_
      refine lv_iload_n (pc := 22) hx hb dX12_door_22 rfl (lv_at hl 2 rfl) ?_
      refine lv_icmp_ne (pc := 23) (tgt := 32) hx hb dX12_door_23 (by decide) (fun c_23 => ?_) (fun c_23 => ?_)
      · replace hf := it_f c_23 hf
        refine lv_aload_n (pc := 32) hx hb dX12_door_32 rfl (lv_at hl 0 rfl) ?_
        refine r_get (pc := 33) C hP 0 rfl fl_X12_358 rfl dX12_door_33 ?_
        refine lv_iload_n (pc := 36) hx hb dX12_door_36 rfl (lv_at hl 1 rfl) ?_
        refine lv_iload_n (pc := 37) hx hb dX12_door_37 rfl (lv_at hl 2 rfl) ?_
        obtain ⟨r_38, hc_38, hf⟩ := bd1 hf
        refine r_dalVi (pc := 38) (ws' := (wX12_door E h h_inn h_tape h_far h_from h_real h_other h_kept h_set h_w h_book h_noteSort h_whose h_what h_noteIs h_fitting h_dawn h_likes h_walked h_came h_inn_creak h_inn_doorA h_inn_doorB h_inn_how h_inn_lies h_inn_isCold h_inn_falls h_inn_isFull h_inn_isTold h_inn_act h_inn_what h_inn_then h_inn_met h_inn_bed h_inn_dream h_inn_listens h_inn_name h_inn_nameSort h_inn_nameNumber 0 v_trouble v_where v_read v_taped v_size v_at v_sort v_place v_sign v_number v_fault v_wrongAt v_word v_marks v_notes v_inn_minutes v_inn_rooms v_inn_doors v_inn_things v_inn_dreams v_inn_sleepers v_inn_listeners v_inn_names v_inn_doorA v_inn_doorB)) (As := [.int p0, .int p1]) (rest := []) C (ctX11_between l E h_inn h_inn_creak h_inn_doorA h_inn_doorB h_inn_how h_inn_lies h_inn_isCold h_inn_falls h_inn_isFull h_inn_isTold h_inn_act h_inn_what h_inn_then h_inn_met h_inn_bed h_inn_dream h_inn_listens h_inn_name h_inn_nameSort h_inn_nameNumber v_inn_minutes v_inn_rooms v_inn_doors v_inn_things v_inn_dreams v_inn_sleepers v_inn_listeners v_inn_names v_inn_doorA v_inn_doorB N p0 p1 r_38 hc_38) ml_X12_301 ⟨Nat.le_of_ble_eq_true rfl, Nat.le_of_ble_eq_true rfl⟩ hP hD hS 1 rfl rfl rfl [1, 2, 3] [0, 4, 5, 6] 4 rfl rfl rfl rfl rfl rfl rfl hl.1 rfl (Nat.le_of_ble_eq_true rfl) ⟨Nat.zero_le _, Nat.zero_le _⟩ dX12_door_38 ?_
        clear hP hD hS; intro H locs hP hD hS
        refine lv_istore_n (pc := 41) (lv' := [(3, .int r_38), (0, .ref h), (1, .int p0), (2, .int p1)]) hx hb dX12_door_41 rfl hl (by decide) rfl (fun ls hl => ?_)
        refine lv_aload_n (pc := 42) hx hb dX12_door_42 rfl (lv_at hl 1 rfl) ?_
        refine lv_iload_n (pc := 43) hx hb dX12_door_43 rfl (lv_at hl 0 rfl) ?_
        refine lv_iconst (pc := 44) (v := (-1)) hx hb dX12_door_44 (by decide) ?_
        refine lv_icmp_ne (pc := 45) (tgt := 53) hx hb dX12_door_45 (by decide) (fun c_45 => ?_) (fun c_45 => ?_)
        · replace hf := it_f c_45 hf
          refine lv_iload_n (pc := 53) hx hb dX12_door_53 rfl (lv_at hl 0 rfl) ?_
          obtain ⟨r_54, v_trouble_54, v_where_54, hc_54, hf⟩ := bd3 hf
          refine r_dalVi (pc := 54) (ws' := (wX12_door E h h_inn h_tape h_far h_from h_real h_other h_kept h_set h_w h_book h_noteSort h_whose h_what h_noteIs h_fitting h_dawn h_likes h_walked h_came h_inn_creak h_inn_doorA h_inn_doorB h_inn_how h_inn_lies h_inn_isCold h_inn_falls h_inn_isFull h_inn_isTold h_inn_act h_inn_what h_inn_then h_inn_met h_inn_bed h_inn_dream h_inn_listens h_inn_name h_inn_nameSort h_inn_nameNumber 0 v_trouble_54 v_where_54 v_read v_taped v_size v_at v_sort v_place v_sign v_number v_fault v_wrongAt v_word v_marks v_notes v_inn_minutes v_inn_rooms v_inn_doors v_inn_things v_inn_dreams v_inn_sleepers v_inn_listeners v_inn_names v_inn_doorA v_inn_doorB)) (As := [.int r_38]) (rest := []) C (ctX12_good l E h h_tape h_far h_from h_real h_other h_kept h_set h_w h_book h_noteSort h_whose h_what h_noteIs h_fitting h_dawn h_likes h_walked h_came 0 v_trouble v_where (some h_inn) v_read v_taped v_size v_at v_sort v_place v_sign v_number v_fault v_wrongAt v_word v_marks v_notes N r_38 (r_54, v_trouble_54, v_where_54) hc_54) ml_X12_81 ⟨Nat.le_of_ble_eq_true rfl, Nat.le_of_ble_eq_true rfl⟩ hP hD hS 0 rfl rfl rfl [0] [4, 1, 2, 3] 4 rfl rfl rfl rfl rfl rfl rfl hl.1 rfl (Nat.le_of_ble_eq_true rfl) ⟨Nat.zero_le _, Nat.zero_le _⟩ dX12_door_54 ?_
          clear hP hD hS; intro H locs hP hD hS
          cases hf
          rw [hQ]
          exact r_iret C hr hP hD hS rfl dX12_door_57
        · replace hf := it_t c_45 hf
          refine lv_bipush (pc := 48) (v := (-2)) hx hb dX12_door_48 (by decide) ?_
          refine lv_goto (pc := 50) (tgt := 54) hx hb dX12_door_50 (by decide) ?_
          obtain ⟨r_54, v_trouble_54, v_where_54, hc_54, hf⟩ := bd3 hf
          refine r_dalVi (pc := 54) (ws' := (wX12_door E h h_inn h_tape h_far h_from h_real h_other h_kept h_set h_w h_book h_noteSort h_whose h_what h_noteIs h_fitting h_dawn h_likes h_walked h_came h_inn_creak h_inn_doorA h_inn_doorB h_inn_how h_inn_lies h_inn_isCold h_inn_falls h_inn_isFull h_inn_isTold h_inn_act h_inn_what h_inn_then h_inn_met h_inn_bed h_inn_dream h_inn_listens h_inn_name h_inn_nameSort h_inn_nameNumber 0 v_trouble_54 v_where_54 v_read v_taped v_size v_at v_sort v_place v_sign v_number v_fault v_wrongAt v_word v_marks v_notes v_inn_minutes v_inn_rooms v_inn_doors v_inn_things v_inn_dreams v_inn_sleepers v_inn_listeners v_inn_names v_inn_doorA v_inn_doorB)) (As := [.int (-2)]) (rest := []) C (ctX12_good l E h h_tape h_far h_from h_real h_other h_kept h_set h_w h_book h_noteSort h_whose h_what h_noteIs h_fitting h_dawn h_likes h_walked h_came 0 v_trouble v_where (some h_inn) v_read v_taped v_size v_at v_sort v_place v_sign v_number v_fault v_wrongAt v_word v_marks v_notes N (-2) (r_54, v_trouble_54, v_where_54) hc_54) ml_X12_81 ⟨Nat.le_of_ble_eq_true rfl, Nat.le_of_ble_eq_true rfl⟩ hP hD hS 0 rfl rfl rfl [0] [4, 1, 2, 3] 4 rfl rfl rfl rfl rfl rfl rfl hl.1 rfl (Nat.le_of_ble_eq_true rfl) ⟨Nat.zero_le _, Nat.zero_le _⟩ dX12_door_54 ?_
          clear hP hD hS; intro H locs hP hD hS
          cases hf
          rw [hQ]
          exact r_iret C hr hP hD hS rfl dX12_door_57
      · replace hf := it_t c_23 hf
        refine lv_aload_n (pc := 26) hx hb dX12_door_26 rfl (lv_at hl 0 rfl) ?_
        refine lv_iconst (pc := 27) (v := 1) hx hb dX12_door_27 (by decide) ?_
        obtain ⟨r_28, v_trouble_28, v_where_28, hc_28, hf⟩ := bd3 hf
        refine r_dalVi (pc := 28) (ws' := (wX12_door E h h_inn h_tape h_far h_from h_real h_other h_kept h_set h_w h_book h_noteSort h_whose h_what h_noteIs h_fitting h_dawn h_likes h_walked h_came h_inn_creak h_inn_doorA h_inn_doorB h_inn_how h_inn_lies h_inn_isCold h_inn_falls h_inn_isFull h_inn_isTold h_inn_act h_inn_what h_inn_then h_inn_met h_inn_bed h_inn_dream h_inn_listens h_inn_name h_inn_nameSort h_inn_nameNumber 0 v_trouble_28 v_where_28 v_read v_taped v_size v_at v_sort v_place v_sign v_number v_fault v_wrongAt v_word v_marks v_notes v_inn_minutes v_inn_rooms v_inn_doors v_inn_things v_inn_dreams v_inn_sleepers v_inn_listeners v_inn_names v_inn_doorA v_inn_doorB)) (As := [.int 1]) (rest := []) C (ctX12_refused l E h h_tape h_far h_from h_real h_other h_kept h_set h_w h_book h_noteSort h_whose h_what h_noteIs h_fitting h_dawn h_likes h_walked h_came 0 v_trouble v_where (some h_inn) v_read v_taped v_size v_at v_sort v_place v_sign v_number v_fault v_wrongAt v_word v_marks v_notes N 1 (r_28, v_trouble_28, v_where_28) hc_28) ml_X12_77 ⟨Nat.le_of_ble_eq_true rfl, Nat.le_of_ble_eq_true rfl⟩ hP hD hS 0 rfl rfl rfl [0] [4, 1, 2, 3] 4 rfl rfl rfl rfl rfl rfl rfl hl.1 rfl (Nat.le_of_ble_eq_true rfl) ⟨Nat.zero_le _, Nat.zero_le _⟩ dX12_door_28 ?_
        clear hP hD hS; intro H locs hP hD hS
        cases hf
        rw [hQ]
        exact r_iret C hr hP hD hS rfl dX12_door_31
def wX12_door0 (E : EN) (h h_tape h_far h_from h_real h_other h_kept h_set h_w h_book h_noteSort h_whose h_what h_noteIs h_fitting h_dawn h_likes h_walked h_came : Nat) (v_thrown : Int32) (v_trouble : Int32) (v_where : Int32) (v_read : Option Nat) (v_taped : Int32) (v_size : Int32) (v_at : Int32) (v_sort : Int32) (v_place : Int32) (v_sign : Int32) (v_number : Int32) (v_fault : Int32) (v_wrongAt : Int32) (v_word : Int64) (v_marks : Int32) (v_notes : Int32) : va_W := [(h, .inr (11, [.int v_thrown, .int v_trouble, .int v_where, .null, va_rf v_read, .ref h_tape, .int v_taped, .int v_size, .int v_at, .int v_sort, .int v_place, .int v_sign, .int v_number, .int v_fault, .int v_wrongAt, .long v_word, .ref h_far, .ref h_from, .ref h_real, .ref h_other, .ref h_kept, .ref h_set, .ref h_w, .int v_marks, .int v_notes, .ref h_book, .ref h_noteSort, .ref h_whose, .ref h_what, .ref h_noteIs, .ref h_fitting, .ref h_dawn, .ref h_likes, .ref h_walked, .ref h_came]))]
def fX12_door0 (N : Nat) (p0 : Int32) (p1 : Int32) : Option (Int32 × Int32 × Int32 × Int32) := (fX12_isRoom0 N).bind (un1 fun (r_7 : Int32) => if r_7 = 0 then ((fX12_refused N 1).bind (un3 fun (r_28 : Int32) (v_trouble_28 : Int32) (v_where_28 : Int32) => some (r_28, 0, v_trouble_28, v_where_28))) else ((fX12_isRoom0 N).bind (un1 fun (r_15 : Int32) => if r_15 = 0 then ((fX12_refused N 1).bind (un3 fun (r_28 : Int32) (v_trouble_28 : Int32) (v_where_28 : Int32) => some (r_28, 0, v_trouble_28, v_where_28))) else (if p0 = p1 then ((fX12_refused N 1).bind (un3 fun (r_28 : Int32) (v_trouble_28 : Int32) (v_where_28 : Int32) => some (r_28, 0, v_trouble_28, v_where_28))) else (none)))))
set_option maxHeartbeats 4000000 in
set_option maxRecDepth 100000 in
theorem ctX12_door0 (l : Launch) (E : EN) (h h_tape h_far h_from h_real h_other h_kept h_set h_w h_book h_noteSort h_whose h_what h_noteIs h_fitting h_dawn h_likes h_walked h_came : Nat) (v_thrown : Int32) (v_trouble : Int32) (v_where : Int32) (v_read : Option Nat) (v_taped : Int32) (v_size : Int32) (v_at : Int32) (v_sort : Int32) (v_place : Int32) (v_sign : Int32) (v_number : Int32) (v_fault : Int32) (v_wrongAt : Int32) (v_word : Int64) (v_marks : Int32) (v_notes : Int32) (N : Nat) (p0 : Int32) (p1 : Int32) (z : Int32 × Int32 × Int32 × Int32) (hf : fX12_door0 N p0 p1 = some z) : CTi l E yX12_door cX12_door 4 .int 1 21 [.ref h, .int p0, .int p1] (wX12_door0 E h h_tape h_far h_from h_real h_other h_kept h_set h_w h_book h_noteSort h_whose h_what h_noteIs h_fitting h_dawn h_likes h_walked h_came v_thrown v_trouble v_where v_read v_taped v_size v_at v_sort v_place v_sign v_number v_fault v_wrongAt v_word v_marks v_notes) (z.1) (wX12_door0 E h h_tape h_far h_from h_real h_other h_kept h_set h_w h_book h_noteSort h_whose h_what h_noteIs h_fitting h_dawn h_likes h_walked h_came z.2.1 z.2.2.1 z.2.2.2 v_read v_taped v_size v_at v_sort v_place v_sign v_number v_fault v_wrongAt v_word v_marks v_notes) := by
  intro sz
  refine ct_body (by decide) (Nat.le_of_ble_eq_true rfl) ?_
  intro p e s m args below meth c A ls hAe C hr hin hP hD hS hl
  have C : CX p s m args meth c cX12_door RX12 4 E A := C
  have hl : lv_has ls 4 [(0, .ref h), (1, .int p0), (2, .int p1)] := hl
  have hx := C.1
  have hb := C.2.1
  rw [hAe]
  clear hAe
  obtain ⟨Q, hQ⟩ : ∃ Q, Q = MQ below (Qi E A (z.1) (wX12_door0 E h h_tape h_far h_from h_real h_other h_kept h_set h_w h_book h_noteSort h_whose h_what h_noteIs h_fitting h_dawn h_likes h_walked h_came z.2.1 z.2.2.1 z.2.2.2 v_read v_taped v_size v_at v_sort v_place v_sign v_number v_fault v_wrongAt v_word v_marks v_notes)) args s 0 0 A := ⟨_, rfl⟩
  rw [← hQ]
  unfold fX12_door0 at hf
  refine lv_aload_n (pc := 0) hx hb dX12_door_0 rfl (lv_at hl 0 rfl) ?_
  refine lv_iconst (pc := 1) (v := 0) hx hb dX12_door_1 (by decide) ?_
  refine r_put (pc := 2) (ws' := (wX12_door0 E h h_tape h_far h_from h_real h_other h_kept h_set h_w h_book h_noteSort h_whose h_what h_noteIs h_fitting h_dawn h_likes h_walked h_came 0 v_trouble v_where v_read v_taped v_size v_at v_sort v_place v_sign v_number v_fault v_wrongAt v_word v_marks v_notes)) C hP hD hS 0 rfl fl_X12_71 rfl rfl (Nat.le_of_ble_eq_true rfl) rfl dX12_door_2 ?_
  clear hP hD hS; intro H locs hP hD hS
  refine lv_aload_n (pc := 5) hx hb dX12_door_5 rfl (lv_at hl 0 rfl) ?_
  refine lv_iload_n (pc := 6) hx hb dX12_door_6 rfl (lv_at hl 1 rfl) ?_
  obtain ⟨r_7, hc_7, hf⟩ := bd1 hf
  refine r_dalVi (pc := 7) (ws' := (wX12_door0 E h h_tape h_far h_from h_real h_other h_kept h_set h_w h_book h_noteSort h_whose h_what h_noteIs h_fitting h_dawn h_likes h_walked h_came 0 v_trouble v_where v_read v_taped v_size v_at v_sort v_place v_sign v_number v_fault v_wrongAt v_word v_marks v_notes)) (As := [.int p0]) (rest := []) C (ctX12_isRoom0 l E h h_tape h_far h_from h_real h_other h_kept h_set h_w h_book h_noteSort h_whose h_what h_noteIs h_fitting h_dawn h_likes h_walked h_came 0 v_trouble v_where v_read v_taped v_size v_at v_sort v_place v_sign v_number v_fault v_wrongAt v_word v_marks v_notes N p0 r_7 hc_7) ml_X12_379 ⟨Nat.le_of_ble_eq_true rfl, Nat.le_of_ble_eq_true rfl⟩ hP hD hS 0 rfl rfl rfl [0] [1] 1 rfl rfl rfl rfl rfl rfl rfl hl.1 rfl (Nat.le_of_ble_eq_true rfl) ⟨Nat.zero_le _, Nat.zero_le _⟩ dX12_door_7 ?_
  clear hP hD hS; intro H locs hP hD hS
  refine lv_if_eq (pc := 10) (tgt := 26) hx hb dX12_door_10 (by decide) (fun c_10 => ?_) (fun c_10 => ?_)
  · replace hf := it_t c_10 hf
    refine lv_aload_n (pc := 26) hx hb dX12_door_26 rfl (lv_at hl 0 rfl) ?_
    refine lv_iconst (pc := 27) (v := 1) hx hb dX12_door_27 (by decide) ?_
    obtain ⟨r_28, v_trouble_28, v_where_28, hc_28, hf⟩ := bd3 hf
    refine r_dalVi (pc := 28) (ws' := (wX12_door0 E h h_tape h_far h_from h_real h_other h_kept h_set h_w h_book h_noteSort h_whose h_what h_noteIs h_fitting h_dawn h_likes h_walked h_came 0 v_trouble_28 v_where_28 v_read v_taped v_size v_at v_sort v_place v_sign v_number v_fault v_wrongAt v_word v_marks v_notes)) (As := [.int 1]) (rest := []) C (ctX12_refused l E h h_tape h_far h_from h_real h_other h_kept h_set h_w h_book h_noteSort h_whose h_what h_noteIs h_fitting h_dawn h_likes h_walked h_came 0 v_trouble v_where none v_read v_taped v_size v_at v_sort v_place v_sign v_number v_fault v_wrongAt v_word v_marks v_notes N 1 (r_28, v_trouble_28, v_where_28) hc_28) ml_X12_77 ⟨Nat.le_of_ble_eq_true rfl, Nat.le_of_ble_eq_true rfl⟩ hP hD hS 0 rfl rfl rfl [0] [1] 1 rfl rfl rfl rfl rfl rfl rfl hl.1 rfl (Nat.le_of_ble_eq_true rfl) ⟨Nat.zero_le _, Nat.zero_le _⟩ dX12_door_28 ?_
    clear hP hD hS; intro H locs hP hD hS
    cases hf
    rw [hQ]
    exact r_iret C hr hP hD hS rfl dX12_door_31
  · replace hf := it_f c_10 hf
    refine lv_aload_n (pc := 13) hx hb dX12_door_13 rfl (lv_at hl 0 rfl) ?_
    refine lv_iload_n (pc := 14) hx hb dX12_door_14 rfl (lv_at hl 2 rfl) ?_
    obtain ⟨r_15, hc_15, hf⟩ := bd1 hf
    refine r_dalVi (pc := 15) (ws' := (wX12_door0 E h h_tape h_far h_from h_real h_other h_kept h_set h_w h_book h_noteSort h_whose h_what h_noteIs h_fitting h_dawn h_likes h_walked h_came 0 v_trouble v_where v_read v_taped v_size v_at v_sort v_place v_sign v_number v_fault v_wrongAt v_word v_marks v_notes)) (As := [.int p1]) (rest := []) C (ctX12_isRoom0 l E h h_tape h_far h_from h_real h_other h_kept h_set h_w h_book h_noteSort h_whose h_what h_noteIs h_fitting h_dawn h_likes h_walked h_came 0 v_trouble v_where v_read v_taped v_size v_at v_sort v_place v_sign v_number v_fault v_wrongAt v_word v_marks v_notes N p1 r_15 hc_15) ml_X12_379 ⟨Nat.le_of_ble_eq_true rfl, Nat.le_of_ble_eq_true rfl⟩ hP hD hS 0 rfl rfl rfl [0] [1] 1 rfl rfl rfl rfl rfl rfl rfl hl.1 rfl (Nat.le_of_ble_eq_true rfl) ⟨Nat.zero_le _, Nat.zero_le _⟩ dX12_door_15 ?_
    clear hP hD hS; intro H locs hP hD hS
    refine lv_if_eq (pc := 18) (tgt := 26) hx hb dX12_door_18 (by decide) (fun c_18 => ?_) (fun c_18 => ?_)
    · replace hf := it_t c_18 hf
      refine lv_aload_n (pc := 26) hx hb dX12_door_26 rfl (lv_at hl 0 rfl) ?_
      refine lv_iconst (pc := 27) (v := 1) hx hb dX12_door_27 (by decide) ?_
      obtain ⟨r_28, v_trouble_28, v_where_28, hc_28, hf⟩ := bd3 hf
      refine r_dalVi (pc := 28) (ws' := (wX12_door0 E h h_tape h_far h_from h_real h_other h_kept h_set h_w h_book h_noteSort h_whose h_what h_noteIs h_fitting h_dawn h_likes h_walked h_came 0 v_trouble_28 v_where_28 v_read v_taped v_size v_at v_sort v_place v_sign v_number v_fault v_wrongAt v_word v_marks v_notes)) (As := [.int 1]) (rest := []) C (ctX12_refused l E h h_tape h_far h_from h_real h_other h_kept h_set h_w h_book h_noteSort h_whose h_what h_noteIs h_fitting h_dawn h_likes h_walked h_came 0 v_trouble v_where none v_read v_taped v_size v_at v_sort v_place v_sign v_number v_fault v_wrongAt v_word v_marks v_notes N 1 (r_28, v_trouble_28, v_where_28) hc_28) ml_X12_77 ⟨Nat.le_of_ble_eq_true rfl, Nat.le_of_ble_eq_true rfl⟩ hP hD hS 0 rfl rfl rfl [0] [1] 1 rfl rfl rfl rfl rfl rfl rfl hl.1 rfl (Nat.le_of_ble_eq_true rfl) ⟨Nat.zero_le _, Nat.zero_le _⟩ dX12_door_28 ?_
      clear hP hD hS; intro H locs hP hD hS
      cases hf
      rw [hQ]
      exact r_iret C hr hP hD hS rfl dX12_door_31
    · replace hf := it_f c_18 hf
      refine lv_iload_n (pc := 21) hx hb dX12_door_21 rfl (lv_at hl 1 rfl) ?_
      refine lv_iload_n (pc := 22) hx hb dX12_door_22 rfl (lv_at hl 2 rfl) ?_
      refine lv_icmp_ne (pc := 23) (tgt := 32) hx hb dX12_door_23 (by decide) (fun c_23 => ?_) (fun c_23 => ?_)
      · replace hf := it_f c_23 hf
        refine lv_aload_n (pc := 32) hx hb dX12_door_32 rfl (lv_at hl 0 rfl) ?_
        refine r_get (pc := 33) C hP 0 rfl fl_X12_358 rfl dX12_door_33 ?_
        refine lv_iload_n (pc := 36) hx hb dX12_door_36 rfl (lv_at hl 1 rfl) ?_
        refine lv_iload_n (pc := 37) hx hb dX12_door_37 rfl (lv_at hl 2 rfl) ?_
        cases hf
      · replace hf := it_t c_23 hf
        refine lv_aload_n (pc := 26) hx hb dX12_door_26 rfl (lv_at hl 0 rfl) ?_
        refine lv_iconst (pc := 27) (v := 1) hx hb dX12_door_27 (by decide) ?_
        obtain ⟨r_28, v_trouble_28, v_where_28, hc_28, hf⟩ := bd3 hf
        refine r_dalVi (pc := 28) (ws' := (wX12_door0 E h h_tape h_far h_from h_real h_other h_kept h_set h_w h_book h_noteSort h_whose h_what h_noteIs h_fitting h_dawn h_likes h_walked h_came 0 v_trouble_28 v_where_28 v_read v_taped v_size v_at v_sort v_place v_sign v_number v_fault v_wrongAt v_word v_marks v_notes)) (As := [.int 1]) (rest := []) C (ctX12_refused l E h h_tape h_far h_from h_real h_other h_kept h_set h_w h_book h_noteSort h_whose h_what h_noteIs h_fitting h_dawn h_likes h_walked h_came 0 v_trouble v_where none v_read v_taped v_size v_at v_sort v_place v_sign v_number v_fault v_wrongAt v_word v_marks v_notes N 1 (r_28, v_trouble_28, v_where_28) hc_28) ml_X12_77 ⟨Nat.le_of_ble_eq_true rfl, Nat.le_of_ble_eq_true rfl⟩ hP hD hS 0 rfl rfl rfl [0] [1] 1 rfl rfl rfl rfl rfl rfl rfl hl.1 rfl (Nat.le_of_ble_eq_true rfl) ⟨Nat.zero_le _, Nat.zero_le _⟩ dX12_door_28 ?_
        clear hP hD hS; intro H locs hP hD hS
        cases hf
        rw [hQ]
        exact r_iret C hr hP hD hS rfl dX12_door_31
def wX12_isDream (E : EN) (h h_inn h_tape h_far h_from h_real h_other h_kept h_set h_w h_book h_noteSort h_whose h_what h_noteIs h_fitting h_dawn h_likes h_walked h_came h_inn_creak h_inn_doorA h_inn_doorB h_inn_how h_inn_lies h_inn_isCold h_inn_falls h_inn_isFull h_inn_isTold h_inn_act h_inn_what h_inn_then h_inn_met h_inn_bed h_inn_dream h_inn_listens h_inn_name h_inn_nameSort h_inn_nameNumber : Nat) (v_thrown : Int32) (v_trouble : Int32) (v_where : Int32) (v_read : Option Nat) (v_taped : Int32) (v_size : Int32) (v_at : Int32) (v_sort : Int32) (v_place : Int32) (v_sign : Int32) (v_number : Int32) (v_fault : Int32) (v_wrongAt : Int32) (v_word : Int64) (v_marks : Int32) (v_notes : Int32) (v_inn_minutes : Int32) (v_inn_rooms : Int32) (v_inn_doors : Int32) (v_inn_things : Int32) (v_inn_dreams : Int32) (v_inn_sleepers : Int32) (v_inn_listeners : Int32) (v_inn_names : Int32) : va_W := [(h, .inr (11, [.int v_thrown, .int v_trouble, .int v_where, .ref h_inn, va_rf v_read, .ref h_tape, .int v_taped, .int v_size, .int v_at, .int v_sort, .int v_place, .int v_sign, .int v_number, .int v_fault, .int v_wrongAt, .long v_word, .ref h_far, .ref h_from, .ref h_real, .ref h_other, .ref h_kept, .ref h_set, .ref h_w, .int v_marks, .int v_notes, .ref h_book, .ref h_noteSort, .ref h_whose, .ref h_what, .ref h_noteIs, .ref h_fitting, .ref h_dawn, .ref h_likes, .ref h_walked, .ref h_came])), (h_inn, .inr (10, [.int v_inn_minutes, .int v_inn_rooms, .int v_inn_doors, .int v_inn_things, .int v_inn_dreams, .int v_inn_sleepers, .int v_inn_listeners, .int v_inn_names, .ref h_inn_creak, .ref h_inn_doorA, .ref h_inn_doorB, .ref h_inn_how, .ref h_inn_lies, .ref h_inn_isCold, .ref h_inn_falls, .ref h_inn_isFull, .ref h_inn_isTold, .ref h_inn_act, .ref h_inn_what, .ref h_inn_then, .ref h_inn_met, .ref h_inn_bed, .ref h_inn_dream, .ref h_inn_listens, .ref h_inn_name, .ref h_inn_nameSort, .ref h_inn_nameNumber]))]
def fX12_isDream (N : Nat) (p0 : Int32) (v_inn_dreams : Int32) : Option Int32 := jn (un0 (some 0)) (fun j26 => if p0 < 0 then (j26 ()) else (if v_inn_dreams ≤ p0 then (j26 ()) else (some 1)))
set_option maxHeartbeats 4000000 in
set_option maxRecDepth 100000 in
theorem ctX12_isDream (l : Launch) (E : EN) (h h_inn h_tape h_far h_from h_real h_other h_kept h_set h_w h_book h_noteSort h_whose h_what h_noteIs h_fitting h_dawn h_likes h_walked h_came h_inn_creak h_inn_doorA h_inn_doorB h_inn_how h_inn_lies h_inn_isCold h_inn_falls h_inn_isFull h_inn_isTold h_inn_act h_inn_what h_inn_then h_inn_met h_inn_bed h_inn_dream h_inn_listens h_inn_name h_inn_nameSort h_inn_nameNumber : Nat) (v_thrown : Int32) (v_trouble : Int32) (v_where : Int32) (v_read : Option Nat) (v_taped : Int32) (v_size : Int32) (v_at : Int32) (v_sort : Int32) (v_place : Int32) (v_sign : Int32) (v_number : Int32) (v_fault : Int32) (v_wrongAt : Int32) (v_word : Int64) (v_marks : Int32) (v_notes : Int32) (v_inn_minutes : Int32) (v_inn_rooms : Int32) (v_inn_doors : Int32) (v_inn_things : Int32) (v_inn_dreams : Int32) (v_inn_sleepers : Int32) (v_inn_listeners : Int32) (v_inn_names : Int32) (N : Nat) (p0 : Int32) (z : Int32) (hf : fX12_isDream N p0 v_inn_dreams = some z) : CTi l E yX12_isDream cX12_isDream 2 .boolean 0 0 [.ref h, .int p0] (wX12_isDream E h h_inn h_tape h_far h_from h_real h_other h_kept h_set h_w h_book h_noteSort h_whose h_what h_noteIs h_fitting h_dawn h_likes h_walked h_came h_inn_creak h_inn_doorA h_inn_doorB h_inn_how h_inn_lies h_inn_isCold h_inn_falls h_inn_isFull h_inn_isTold h_inn_act h_inn_what h_inn_then h_inn_met h_inn_bed h_inn_dream h_inn_listens h_inn_name h_inn_nameSort h_inn_nameNumber v_thrown v_trouble v_where v_read v_taped v_size v_at v_sort v_place v_sign v_number v_fault v_wrongAt v_word v_marks v_notes v_inn_minutes v_inn_rooms v_inn_doors v_inn_things v_inn_dreams v_inn_sleepers v_inn_listeners v_inn_names) (z) (wX12_isDream E h h_inn h_tape h_far h_from h_real h_other h_kept h_set h_w h_book h_noteSort h_whose h_what h_noteIs h_fitting h_dawn h_likes h_walked h_came h_inn_creak h_inn_doorA h_inn_doorB h_inn_how h_inn_lies h_inn_isCold h_inn_falls h_inn_isFull h_inn_isTold h_inn_act h_inn_what h_inn_then h_inn_met h_inn_bed h_inn_dream h_inn_listens h_inn_name h_inn_nameSort h_inn_nameNumber v_thrown v_trouble v_where v_read v_taped v_size v_at v_sort v_place v_sign v_number v_fault v_wrongAt v_word v_marks v_notes v_inn_minutes v_inn_rooms v_inn_doors v_inn_things v_inn_dreams v_inn_sleepers v_inn_listeners v_inn_names) := by
  intro sz
  refine ct_body (by decide) (Nat.le_of_ble_eq_true rfl) ?_
  intro p e s m args below meth c A ls hAe C hr hin hP hD hS hl
  have C : CX p s m args meth c cX12_isDream RX12 2 E A := C
  have hl : lv_has ls 2 [(0, .ref h), (1, .int p0)] := hl
  have hx := C.1
  have hb := C.2.1
  rw [hAe]
  clear hAe
  obtain ⟨Q, hQ⟩ : ∃ Q, Q = MQ below (Qi E A (z) (wX12_isDream E h h_inn h_tape h_far h_from h_real h_other h_kept h_set h_w h_book h_noteSort h_whose h_what h_noteIs h_fitting h_dawn h_likes h_walked h_came h_inn_creak h_inn_doorA h_inn_doorB h_inn_how h_inn_lies h_inn_isCold h_inn_falls h_inn_isFull h_inn_isTold h_inn_act h_inn_what h_inn_then h_inn_met h_inn_bed h_inn_dream h_inn_listens h_inn_name h_inn_nameSort h_inn_nameNumber v_thrown v_trouble v_where v_read v_taped v_size v_at v_sort v_place v_sign v_number v_fault v_wrongAt v_word v_marks v_notes v_inn_minutes v_inn_rooms v_inn_doors v_inn_things v_inn_dreams v_inn_sleepers v_inn_listeners v_inn_names)) args s 0 0 A := ⟨_, rfl⟩
  rw [← hQ]
  unfold fX12_isDream at hf
  refine lv_aload_n (pc := 0) hx hb dX12_isDream_0 rfl (lv_at hl 0 rfl) ?_
  refine r_get (pc := 1) C hP 0 rfl fl_X12_358 rfl dX12_isDream_1 ?_
  refine jnK hf (fun j26 ej26 hf => ?_)
  have hj26 : j26 () = some z → AT p l e (rmOf 0 0) s m args below meth c E A Q 0 0 2 [] (wX12_isDream E h h_inn h_tape h_far h_from h_real h_other h_kept h_set h_w h_book h_noteSort h_whose h_what h_noteIs h_fitting h_dawn h_likes h_walked h_came h_inn_creak h_inn_doorA h_inn_doorB h_inn_how h_inn_lies h_inn_isCold h_inn_falls h_inn_isFull h_inn_isTold h_inn_act h_inn_what h_inn_then h_inn_met h_inn_bed h_inn_dream h_inn_listens h_inn_name h_inn_nameSort h_inn_nameNumber v_thrown v_trouble v_where v_read v_taped v_size v_at v_sort v_place v_sign v_number v_fault v_wrongAt v_word v_marks v_notes v_inn_minutes v_inn_rooms v_inn_doors v_inn_things v_inn_dreams v_inn_sleepers v_inn_listeners v_inn_names) 26 [] := by
    intro  hf H locs ls hl hP hD hS
    rw [ej26] at hf
    replace hf := un0_s hf
    refine lv_iconst (pc := 26) (v := 0) hx hb dX12_isDream_26 (by decide) ?_
    cases hf
    rw [hQ]
    exact r_zret C hr hP hD hS (Or.inl rfl) rfl dX12_isDream_27
  clear ej26
  refine lv_ifnull (pc := 4) hx hb dX12_isDream_4 ?_
  refine lv_iload_n (pc := 7) hx hb dX12_isDream_7 rfl (lv_at hl 1 rfl) ?_
  refine lv_if_lt (pc := 8) (tgt := 26) hx hb dX12_isDream_8 (by decide) (fun c_8 => ?_) (fun c_8 => ?_)
  · replace hf := it_t c_8 hf
    exact hj26  hf _ _ _ (lv_sub hl [] rfl) hP hD hS
  · replace hf := it_f c_8 hf
    refine lv_iload_n (pc := 11) hx hb dX12_isDream_11 rfl (lv_at hl 1 rfl) ?_
    refine lv_aload_n (pc := 12) hx hb dX12_isDream_12 rfl (lv_at hl 0 rfl) ?_
    refine r_get (pc := 13) C hP 0 rfl fl_X12_358 rfl dX12_isDream_13 ?_
    refine r_get (pc := 16) C hP 1 rfl fl_X12_325 rfl dX12_isDream_16 ?_
    refine lv_icmp_ge (pc := 19) (tgt := 26) hx hb dX12_isDream_19 (by decide) (fun c_19 => ?_) (fun c_19 => ?_)
    · replace hf := it_t c_19 hf
      exact hj26  hf _ _ _ (lv_sub hl [] rfl) hP hD hS
    · replace hf := it_f c_19 hf
      refine lv_iconst (pc := 22) (v := 1) hx hb dX12_isDream_22 (by decide) ?_
      refine lv_goto (pc := 23) (tgt := 27) hx hb dX12_isDream_23 (by decide) ?_
      cases hf
      rw [hQ]
      exact r_zret C hr hP hD hS (Or.inr rfl) rfl dX12_isDream_27
def wX12_isDream0 (E : EN) (h h_tape h_far h_from h_real h_other h_kept h_set h_w h_book h_noteSort h_whose h_what h_noteIs h_fitting h_dawn h_likes h_walked h_came : Nat) (v_thrown : Int32) (v_trouble : Int32) (v_where : Int32) (v_read : Option Nat) (v_taped : Int32) (v_size : Int32) (v_at : Int32) (v_sort : Int32) (v_place : Int32) (v_sign : Int32) (v_number : Int32) (v_fault : Int32) (v_wrongAt : Int32) (v_word : Int64) (v_marks : Int32) (v_notes : Int32) : va_W := [(h, .inr (11, [.int v_thrown, .int v_trouble, .int v_where, .null, va_rf v_read, .ref h_tape, .int v_taped, .int v_size, .int v_at, .int v_sort, .int v_place, .int v_sign, .int v_number, .int v_fault, .int v_wrongAt, .long v_word, .ref h_far, .ref h_from, .ref h_real, .ref h_other, .ref h_kept, .ref h_set, .ref h_w, .int v_marks, .int v_notes, .ref h_book, .ref h_noteSort, .ref h_whose, .ref h_what, .ref h_noteIs, .ref h_fitting, .ref h_dawn, .ref h_likes, .ref h_walked, .ref h_came]))]
def fX12_isDream0 (N : Nat) : Option Int32 := jn (un0 (some 0)) (fun j26 => j26 ())
set_option maxHeartbeats 4000000 in
set_option maxRecDepth 100000 in
theorem ctX12_isDream0 (l : Launch) (E : EN) (h h_tape h_far h_from h_real h_other h_kept h_set h_w h_book h_noteSort h_whose h_what h_noteIs h_fitting h_dawn h_likes h_walked h_came : Nat) (v_thrown : Int32) (v_trouble : Int32) (v_where : Int32) (v_read : Option Nat) (v_taped : Int32) (v_size : Int32) (v_at : Int32) (v_sort : Int32) (v_place : Int32) (v_sign : Int32) (v_number : Int32) (v_fault : Int32) (v_wrongAt : Int32) (v_word : Int64) (v_marks : Int32) (v_notes : Int32) (N : Nat) (p0 : Int32) (z : Int32) (hf : fX12_isDream0 N  = some z) : CTi l E yX12_isDream cX12_isDream 2 .boolean 0 0 [.ref h, .int p0] (wX12_isDream0 E h h_tape h_far h_from h_real h_other h_kept h_set h_w h_book h_noteSort h_whose h_what h_noteIs h_fitting h_dawn h_likes h_walked h_came v_thrown v_trouble v_where v_read v_taped v_size v_at v_sort v_place v_sign v_number v_fault v_wrongAt v_word v_marks v_notes) (z) (wX12_isDream0 E h h_tape h_far h_from h_real h_other h_kept h_set h_w h_book h_noteSort h_whose h_what h_noteIs h_fitting h_dawn h_likes h_walked h_came v_thrown v_trouble v_where v_read v_taped v_size v_at v_sort v_place v_sign v_number v_fault v_wrongAt v_word v_marks v_notes) := by
  intro sz
  refine ct_body (by decide) (Nat.le_of_ble_eq_true rfl) ?_
  intro p e s m args below meth c A ls hAe C hr hin hP hD hS hl
  have C : CX p s m args meth c cX12_isDream RX12 2 E A := C
  have hl : lv_has ls 2 [(0, .ref h), (1, .int p0)] := hl
  have hx := C.1
  have hb := C.2.1
  rw [hAe]
  clear hAe
  obtain ⟨Q, hQ⟩ : ∃ Q, Q = MQ below (Qi E A (z) (wX12_isDream0 E h h_tape h_far h_from h_real h_other h_kept h_set h_w h_book h_noteSort h_whose h_what h_noteIs h_fitting h_dawn h_likes h_walked h_came v_thrown v_trouble v_where v_read v_taped v_size v_at v_sort v_place v_sign v_number v_fault v_wrongAt v_word v_marks v_notes)) args s 0 0 A := ⟨_, rfl⟩
  rw [← hQ]
  unfold fX12_isDream0 at hf
  refine lv_aload_n (pc := 0) hx hb dX12_isDream_0 rfl (lv_at hl 0 rfl) ?_
  refine r_get (pc := 1) C hP 0 rfl fl_X12_358 rfl dX12_isDream_1 ?_
  refine jnK hf (fun j26 ej26 hf => ?_)
  have hj26 : j26 () = some z → AT p l e (rmOf 0 0) s m args below meth c E A Q 0 0 2 [] (wX12_isDream0 E h h_tape h_far h_from h_real h_other h_kept h_set h_w h_book h_noteSort h_whose h_what h_noteIs h_fitting h_dawn h_likes h_walked h_came v_thrown v_trouble v_where v_read v_taped v_size v_at v_sort v_place v_sign v_number v_fault v_wrongAt v_word v_marks v_notes) 26 [] := by
    intro  hf H locs ls hl hP hD hS
    rw [ej26] at hf
    replace hf := un0_s hf
    refine lv_iconst (pc := 26) (v := 0) hx hb dX12_isDream_26 (by decide) ?_
    cases hf
    rw [hQ]
    exact r_zret C hr hP hD hS (Or.inl rfl) rfl dX12_isDream_27
  clear ej26
  refine lv_ifnullN (pc := 4) (tgt := 26) hx hb dX12_isDream_4 (by decide) ?_
  exact hj26  hf _ _ _ (lv_sub hl [] rfl) hP hD hS
def wX12_dream (E : EN) (h h_inn h_tape h_far h_from h_real h_other h_kept h_set h_w h_book h_noteSort h_whose h_what h_noteIs h_fitting h_dawn h_likes h_walked h_came h_inn_creak h_inn_doorA h_inn_doorB h_inn_how h_inn_lies h_inn_isCold h_inn_falls h_inn_isFull h_inn_isTold h_inn_act h_inn_what h_inn_then h_inn_met h_inn_bed h_inn_dream h_inn_listens h_inn_name h_inn_nameSort h_inn_nameNumber : Nat) (v_thrown : Int32) (v_trouble : Int32) (v_where : Int32) (v_read : Option Nat) (v_taped : Int32) (v_size : Int32) (v_at : Int32) (v_sort : Int32) (v_place : Int32) (v_sign : Int32) (v_number : Int32) (v_fault : Int32) (v_wrongAt : Int32) (v_word : Int64) (v_marks : Int32) (v_notes : Int32) (v_inn_minutes : Int32) (v_inn_rooms : Int32) (v_inn_doors : Int32) (v_inn_things : Int32) (v_inn_dreams : Int32) (v_inn_sleepers : Int32) (v_inn_listeners : Int32) (v_inn_names : Int32) (v_inn_isTold : Nat → Int32) (v_inn_met : Nat → Int32) (v_inn_then : Nat → Int32) (v_inn_what : Nat → Int32) (v_inn_act : Nat → Int32) : va_W := [(h, .inr (11, [.int v_thrown, .int v_trouble, .int v_where, .ref h_inn, va_rf v_read, .ref h_tape, .int v_taped, .int v_size, .int v_at, .int v_sort, .int v_place, .int v_sign, .int v_number, .int v_fault, .int v_wrongAt, .long v_word, .ref h_far, .ref h_from, .ref h_real, .ref h_other, .ref h_kept, .ref h_set, .ref h_w, .int v_marks, .int v_notes, .ref h_book, .ref h_noteSort, .ref h_whose, .ref h_what, .ref h_noteIs, .ref h_fitting, .ref h_dawn, .ref h_likes, .ref h_walked, .ref h_came])), (h_inn, .inr (10, [.int v_inn_minutes, .int v_inn_rooms, .int v_inn_doors, .int v_inn_things, .int v_inn_dreams, .int v_inn_sleepers, .int v_inn_listeners, .int v_inn_names, .ref h_inn_creak, .ref h_inn_doorA, .ref h_inn_doorB, .ref h_inn_how, .ref h_inn_lies, .ref h_inn_isCold, .ref h_inn_falls, .ref h_inn_isFull, .ref h_inn_isTold, .ref h_inn_act, .ref h_inn_what, .ref h_inn_then, .ref h_inn_met, .ref h_inn_bed, .ref h_inn_dream, .ref h_inn_listens, .ref h_inn_name, .ref h_inn_nameSort, .ref h_inn_nameNumber])), (h_inn_isTold, aZ E 16 v_inn_isTold), (h_inn_met, aI E 16 v_inn_met), (h_inn_then, aI E 16 v_inn_then), (h_inn_what, aI E 16 v_inn_what), (h_inn_act, aI E 16 v_inn_act)]
def fX12_dream (N : Nat) (p0 : Int32) (p1 : Int32) (p2 : Int32) (v_inn_dreams : Int32) (v_inn_isTold : Nat → Int32) (v_inn_met : Nat → Int32) (v_inn_then : Nat → Int32) (v_inn_what : Nat → Int32) (v_inn_act : Nat → Int32) : Option (Int32 × Int32 × Int32 × Int32) := (fX12_isDream N p0 v_inn_dreams).bind (un1 fun (r_7 : Int32) => if r_7 = 0 then ((fX12_refused N 1).bind (un3 fun (r_33 : Int32) (v_trouble_33 : Int32) (v_where_33 : Int32) => some (r_33, 0, v_trouble_33, v_where_33))) else ((fX12_in N p1 0 3).bind (un1 fun (r_16 : Int32) => if r_16 = 0 then ((fX12_refused N 1).bind (un3 fun (r_33 : Int32) (v_trouble_33 : Int32) (v_where_33 : Int32) => some (r_33, 0, v_trouble_33, v_where_33))) else ((fX12_in N p2 0 3).bind (un1 fun (r_25 : Int32) => if r_25 = 0 then ((fX12_refused N 1).bind (un3 fun (r_33 : Int32) (v_trouble_33 : Int32) (v_where_33 : Int32) => some (r_33, 0, v_trouble_33, v_where_33))) else (gd ((4 * p0) + p1) 16 (if (v_inn_isTold ((4 * p0) + p1).toNatClampNeg) = 0 then ((fX12_refused N 6).bind (un3 fun (r_60 : Int32) (v_trouble_60 : Int32) (v_where_60 : Int32) => some (r_60, 0, v_trouble_60, v_where_60))) else (if p2 = 0 then (gd ((4 * p0) + p1) 16 ((fX12_good N (v_inn_act ((4 * p0) + p1).toNatClampNeg)).bind (un3 fun (r_128 : Int32) (v_trouble_128 : Int32) (v_where_128 : Int32) => some (r_128, 0, v_trouble_128, v_where_128)))) else (if p2 = 1 then (gd ((4 * p0) + p1) 16 ((fX12_good N (v_inn_what ((4 * p0) + p1).toNatClampNeg)).bind (un3 fun (r_128 : Int32) (v_trouble_128 : Int32) (v_where_128 : Int32) => some (r_128, 0, v_trouble_128, v_where_128)))) else (if p2 = 2 then (gd ((4 * p0) + p1) 16 ((fX12_good N (v_inn_then ((4 * p0) + p1).toNatClampNeg)).bind (un3 fun (r_128 : Int32) (v_trouble_128 : Int32) (v_where_128 : Int32) => some (r_128, 0, v_trouble_128, v_where_128)))) else (gd ((4 * p0) + p1) 16 ((fX12_good N (v_inn_met ((4 * p0) + p1).toNatClampNeg)).bind (un3 fun (r_128 : Int32) (v_trouble_128 : Int32) (v_where_128 : Int32) => some (r_128, 0, v_trouble_128, v_where_128))))))))))))))
set_option maxHeartbeats 4000000 in
set_option maxRecDepth 100000 in
theorem ctX12_dream (l : Launch) (E : EN) (h h_inn h_tape h_far h_from h_real h_other h_kept h_set h_w h_book h_noteSort h_whose h_what h_noteIs h_fitting h_dawn h_likes h_walked h_came h_inn_creak h_inn_doorA h_inn_doorB h_inn_how h_inn_lies h_inn_isCold h_inn_falls h_inn_isFull h_inn_isTold h_inn_act h_inn_what h_inn_then h_inn_met h_inn_bed h_inn_dream h_inn_listens h_inn_name h_inn_nameSort h_inn_nameNumber : Nat) (v_thrown : Int32) (v_trouble : Int32) (v_where : Int32) (v_read : Option Nat) (v_taped : Int32) (v_size : Int32) (v_at : Int32) (v_sort : Int32) (v_place : Int32) (v_sign : Int32) (v_number : Int32) (v_fault : Int32) (v_wrongAt : Int32) (v_word : Int64) (v_marks : Int32) (v_notes : Int32) (v_inn_minutes : Int32) (v_inn_rooms : Int32) (v_inn_doors : Int32) (v_inn_things : Int32) (v_inn_dreams : Int32) (v_inn_sleepers : Int32) (v_inn_listeners : Int32) (v_inn_names : Int32) (v_inn_isTold : Nat → Int32) (v_inn_met : Nat → Int32) (v_inn_then : Nat → Int32) (v_inn_what : Nat → Int32) (v_inn_act : Nat → Int32) (N : Nat) (p0 : Int32) (p1 : Int32) (p2 : Int32) (z : Int32 × Int32 × Int32 × Int32) (hf : fX12_dream N p0 p1 p2 v_inn_dreams v_inn_isTold v_inn_met v_inn_then v_inn_what v_inn_act = some z) : CTi l E yX12_dream cX12_dream 5 .int 1 22 [.ref h, .int p0, .int p1, .int p2] (wX12_dream E h h_inn h_tape h_far h_from h_real h_other h_kept h_set h_w h_book h_noteSort h_whose h_what h_noteIs h_fitting h_dawn h_likes h_walked h_came h_inn_creak h_inn_doorA h_inn_doorB h_inn_how h_inn_lies h_inn_isCold h_inn_falls h_inn_isFull h_inn_isTold h_inn_act h_inn_what h_inn_then h_inn_met h_inn_bed h_inn_dream h_inn_listens h_inn_name h_inn_nameSort h_inn_nameNumber v_thrown v_trouble v_where v_read v_taped v_size v_at v_sort v_place v_sign v_number v_fault v_wrongAt v_word v_marks v_notes v_inn_minutes v_inn_rooms v_inn_doors v_inn_things v_inn_dreams v_inn_sleepers v_inn_listeners v_inn_names v_inn_isTold v_inn_met v_inn_then v_inn_what v_inn_act) (z.1) (wX12_dream E h h_inn h_tape h_far h_from h_real h_other h_kept h_set h_w h_book h_noteSort h_whose h_what h_noteIs h_fitting h_dawn h_likes h_walked h_came h_inn_creak h_inn_doorA h_inn_doorB h_inn_how h_inn_lies h_inn_isCold h_inn_falls h_inn_isFull h_inn_isTold h_inn_act h_inn_what h_inn_then h_inn_met h_inn_bed h_inn_dream h_inn_listens h_inn_name h_inn_nameSort h_inn_nameNumber z.2.1 z.2.2.1 z.2.2.2 v_read v_taped v_size v_at v_sort v_place v_sign v_number v_fault v_wrongAt v_word v_marks v_notes v_inn_minutes v_inn_rooms v_inn_doors v_inn_things v_inn_dreams v_inn_sleepers v_inn_listeners v_inn_names v_inn_isTold v_inn_met v_inn_then v_inn_what v_inn_act) := by
  intro sz
  refine ct_body (by decide) (Nat.le_of_ble_eq_true rfl) ?_
  intro p e s m args below meth c A ls hAe C hr hin hP hD hS hl
  have C : CX p s m args meth c cX12_dream RX12 5 E A := C
  have hl : lv_has ls 5 [(0, .ref h), (1, .int p0), (2, .int p1), (3, .int p2)] := hl
  have hx := C.1
  have hb := C.2.1
  rw [hAe]
  clear hAe
  obtain ⟨Q, hQ⟩ : ∃ Q, Q = MQ below (Qi E A (z.1) (wX12_dream E h h_inn h_tape h_far h_from h_real h_other h_kept h_set h_w h_book h_noteSort h_whose h_what h_noteIs h_fitting h_dawn h_likes h_walked h_came h_inn_creak h_inn_doorA h_inn_doorB h_inn_how h_inn_lies h_inn_isCold h_inn_falls h_inn_isFull h_inn_isTold h_inn_act h_inn_what h_inn_then h_inn_met h_inn_bed h_inn_dream h_inn_listens h_inn_name h_inn_nameSort h_inn_nameNumber z.2.1 z.2.2.1 z.2.2.2 v_read v_taped v_size v_at v_sort v_place v_sign v_number v_fault v_wrongAt v_word v_marks v_notes v_inn_minutes v_inn_rooms v_inn_doors v_inn_things v_inn_dreams v_inn_sleepers v_inn_listeners v_inn_names v_inn_isTold v_inn_met v_inn_then v_inn_what v_inn_act)) args s 0 0 A := ⟨_, rfl⟩
  rw [← hQ]
  unfold fX12_dream at hf
  refine lv_aload_n (pc := 0) hx hb dX12_dream_0 rfl (lv_at hl 0 rfl) ?_
  refine lv_iconst (pc := 1) (v := 0) hx hb dX12_dream_1 (by decide) ?_
  refine r_put (pc := 2) (ws' := (wX12_dream E h h_inn h_tape h_far h_from h_real h_other h_kept h_set h_w h_book h_noteSort h_whose h_what h_noteIs h_fitting h_dawn h_likes h_walked h_came h_inn_creak h_inn_doorA h_inn_doorB h_inn_how h_inn_lies h_inn_isCold h_inn_falls h_inn_isFull h_inn_isTold h_inn_act h_inn_what h_inn_then h_inn_met h_inn_bed h_inn_dream h_inn_listens h_inn_name h_inn_nameSort h_inn_nameNumber 0 v_trouble v_where v_read v_taped v_size v_at v_sort v_place v_sign v_number v_fault v_wrongAt v_word v_marks v_notes v_inn_minutes v_inn_rooms v_inn_doors v_inn_things v_inn_dreams v_inn_sleepers v_inn_listeners v_inn_names v_inn_isTold v_inn_met v_inn_then v_inn_what v_inn_act)) C hP hD hS 0 rfl fl_X12_71 rfl rfl (Nat.le_of_ble_eq_true rfl) rfl dX12_dream_2 ?_
  clear hP hD hS; intro H locs hP hD hS
  refine lv_aload_n (pc := 5) hx hb dX12_dream_5 rfl (lv_at hl 0 rfl) ?_
  refine lv_iload_n (pc := 6) hx hb dX12_dream_6 rfl (lv_at hl 1 rfl) ?_
  obtain ⟨r_7, hc_7, hf⟩ := bd1 hf
  refine r_dalVi (pc := 7) (ws' := (wX12_dream E h h_inn h_tape h_far h_from h_real h_other h_kept h_set h_w h_book h_noteSort h_whose h_what h_noteIs h_fitting h_dawn h_likes h_walked h_came h_inn_creak h_inn_doorA h_inn_doorB h_inn_how h_inn_lies h_inn_isCold h_inn_falls h_inn_isFull h_inn_isTold h_inn_act h_inn_what h_inn_then h_inn_met h_inn_bed h_inn_dream h_inn_listens h_inn_name h_inn_nameSort h_inn_nameNumber 0 v_trouble v_where v_read v_taped v_size v_at v_sort v_place v_sign v_number v_fault v_wrongAt v_word v_marks v_notes v_inn_minutes v_inn_rooms v_inn_doors v_inn_things v_inn_dreams v_inn_sleepers v_inn_listeners v_inn_names v_inn_isTold v_inn_met v_inn_then v_inn_what v_inn_act)) (As := [.int p0]) (rest := []) C (ctX12_isDream l E h h_inn h_tape h_far h_from h_real h_other h_kept h_set h_w h_book h_noteSort h_whose h_what h_noteIs h_fitting h_dawn h_likes h_walked h_came h_inn_creak h_inn_doorA h_inn_doorB h_inn_how h_inn_lies h_inn_isCold h_inn_falls h_inn_isFull h_inn_isTold h_inn_act h_inn_what h_inn_then h_inn_met h_inn_bed h_inn_dream h_inn_listens h_inn_name h_inn_nameSort h_inn_nameNumber 0 v_trouble v_where v_read v_taped v_size v_at v_sort v_place v_sign v_number v_fault v_wrongAt v_word v_marks v_notes v_inn_minutes v_inn_rooms v_inn_doors v_inn_things v_inn_dreams v_inn_sleepers v_inn_listeners v_inn_names N p0 r_7 hc_7) ml_X12_382 ⟨Nat.le_of_ble_eq_true rfl, Nat.le_of_ble_eq_true rfl⟩ hP hD hS 0 rfl rfl rfl [0, 1] [7, 8, 2, 3, 4, 5, 6] 7 rfl rfl rfl rfl rfl rfl rfl hl.1 rfl (Nat.le_of_ble_eq_true rfl) ⟨Nat.zero_le _, Nat.zero_le _⟩ dX12_dream_7 ?_
  clear hP hD hS; intro H locs hP hD hS
  refine lv_if_eq (pc := 10) (tgt := 31) hx hb dX12_dream_10 (by decide) (fun c_10 => ?_) (fun c_10 => ?_)
  · replace hf := it_t c_10 hf
    refine lv_aload_n (pc := 31) hx hb dX12_dream_31 rfl (lv_at hl 0 rfl) ?_
    refine lv_iconst (pc := 32) (v := 1) hx hb dX12_dream_32 (by decide) ?_
    obtain ⟨r_33, v_trouble_33, v_where_33, hc_33, hf⟩ := bd3 hf
    refine r_dalVi (pc := 33) (ws' := (wX12_dream E h h_inn h_tape h_far h_from h_real h_other h_kept h_set h_w h_book h_noteSort h_whose h_what h_noteIs h_fitting h_dawn h_likes h_walked h_came h_inn_creak h_inn_doorA h_inn_doorB h_inn_how h_inn_lies h_inn_isCold h_inn_falls h_inn_isFull h_inn_isTold h_inn_act h_inn_what h_inn_then h_inn_met h_inn_bed h_inn_dream h_inn_listens h_inn_name h_inn_nameSort h_inn_nameNumber 0 v_trouble_33 v_where_33 v_read v_taped v_size v_at v_sort v_place v_sign v_number v_fault v_wrongAt v_word v_marks v_notes v_inn_minutes v_inn_rooms v_inn_doors v_inn_things v_inn_dreams v_inn_sleepers v_inn_listeners v_inn_names v_inn_isTold v_inn_met v_inn_then v_inn_what v_inn_act)) (As := [.int 1]) (rest := []) C (ctX12_refused l E h h_tape h_far h_from h_real h_other h_kept h_set h_w h_book h_noteSort h_whose h_what h_noteIs h_fitting h_dawn h_likes h_walked h_came 0 v_trouble v_where (some h_inn) v_read v_taped v_size v_at v_sort v_place v_sign v_number v_fault v_wrongAt v_word v_marks v_notes N 1 (r_33, v_trouble_33, v_where_33) hc_33) ml_X12_77 ⟨Nat.le_of_ble_eq_true rfl, Nat.le_of_ble_eq_true rfl⟩ hP hD hS 0 rfl rfl rfl [0] [7, 1, 2, 3, 4, 5, 6] 7 rfl rfl rfl rfl rfl rfl rfl hl.1 rfl (Nat.le_of_ble_eq_true rfl) ⟨Nat.zero_le _, Nat.zero_le _⟩ dX12_dream_33 ?_
    clear hP hD hS; intro H locs hP hD hS
    cases hf
    rw [hQ]
    exact r_iret C hr hP hD hS rfl dX12_dream_36
  · replace hf := it_f c_10 hf
    refine lv_iload_n (pc := 13) hx hb dX12_dream_13 rfl (lv_at hl 2 rfl) ?_
    refine lv_iconst (pc := 14) (v := 0) hx hb dX12_dream_14 (by decide) ?_
    refine lv_iconst (pc := 15) (v := 3) hx hb dX12_dream_15 (by decide) ?_
    obtain ⟨r_16, hc_16, hf⟩ := bd1 hf
    refine r_dalSi (pc := 16) (Cn := "") (h := 0) (ws' := (wX12_dream E h h_inn h_tape h_far h_from h_real h_other h_kept h_set h_w h_book h_noteSort h_whose h_what h_noteIs h_fitting h_dawn h_likes h_walked h_came h_inn_creak h_inn_doorA h_inn_doorB h_inn_how h_inn_lies h_inn_isCold h_inn_falls h_inn_isFull h_inn_isTold h_inn_act h_inn_what h_inn_then h_inn_met h_inn_bed h_inn_dream h_inn_listens h_inn_name h_inn_nameSort h_inn_nameNumber 0 v_trouble v_where v_read v_taped v_size v_at v_sort v_place v_sign v_number v_fault v_wrongAt v_word v_marks v_notes v_inn_minutes v_inn_rooms v_inn_doors v_inn_things v_inn_dreams v_inn_sleepers v_inn_listeners v_inn_names v_inn_isTold v_inn_met v_inn_then v_inn_what v_inn_act)) (As := [.int p1, .int 0, .int 3]) (rest := []) C (ctX12_in l E N p1 0 3 r_16 hc_16) ml_X12_149 ⟨Nat.le_of_ble_eq_true rfl, Nat.le_of_ble_eq_true rfl⟩ hP hD hS [] [0, 1, 2, 3, 4, 5, 6] 7 rfl rfl rfl rfl rfl rfl rfl hl.1 rfl (Nat.le_of_ble_eq_true rfl) ⟨Nat.zero_le _, Nat.zero_le _⟩ dX12_dream_16 ?_
    clear hP hD hS; intro H locs hP hD hS
    refine lv_if_eq (pc := 19) (tgt := 31) hx hb dX12_dream_19 (by decide) (fun c_19 => ?_) (fun c_19 => ?_)
    · replace hf := it_t c_19 hf
      refine lv_aload_n (pc := 31) hx hb dX12_dream_31 rfl (lv_at hl 0 rfl) ?_
      refine lv_iconst (pc := 32) (v := 1) hx hb dX12_dream_32 (by decide) ?_
      obtain ⟨r_33, v_trouble_33, v_where_33, hc_33, hf⟩ := bd3 hf
      refine r_dalVi (pc := 33) (ws' := (wX12_dream E h h_inn h_tape h_far h_from h_real h_other h_kept h_set h_w h_book h_noteSort h_whose h_what h_noteIs h_fitting h_dawn h_likes h_walked h_came h_inn_creak h_inn_doorA h_inn_doorB h_inn_how h_inn_lies h_inn_isCold h_inn_falls h_inn_isFull h_inn_isTold h_inn_act h_inn_what h_inn_then h_inn_met h_inn_bed h_inn_dream h_inn_listens h_inn_name h_inn_nameSort h_inn_nameNumber 0 v_trouble_33 v_where_33 v_read v_taped v_size v_at v_sort v_place v_sign v_number v_fault v_wrongAt v_word v_marks v_notes v_inn_minutes v_inn_rooms v_inn_doors v_inn_things v_inn_dreams v_inn_sleepers v_inn_listeners v_inn_names v_inn_isTold v_inn_met v_inn_then v_inn_what v_inn_act)) (As := [.int 1]) (rest := []) C (ctX12_refused l E h h_tape h_far h_from h_real h_other h_kept h_set h_w h_book h_noteSort h_whose h_what h_noteIs h_fitting h_dawn h_likes h_walked h_came 0 v_trouble v_where (some h_inn) v_read v_taped v_size v_at v_sort v_place v_sign v_number v_fault v_wrongAt v_word v_marks v_notes N 1 (r_33, v_trouble_33, v_where_33) hc_33) ml_X12_77 ⟨Nat.le_of_ble_eq_true rfl, Nat.le_of_ble_eq_true rfl⟩ hP hD hS 0 rfl rfl rfl [0] [7, 1, 2, 3, 4, 5, 6] 7 rfl rfl rfl rfl rfl rfl rfl hl.1 rfl (Nat.le_of_ble_eq_true rfl) ⟨Nat.zero_le _, Nat.zero_le _⟩ dX12_dream_33 ?_
      clear hP hD hS; intro H locs hP hD hS
      cases hf
      rw [hQ]
      exact r_iret C hr hP hD hS rfl dX12_dream_36
    · replace hf := it_f c_19 hf
      refine lv_iload_n (pc := 22) hx hb dX12_dream_22 rfl (lv_at hl 3 rfl) ?_
      refine lv_iconst (pc := 23) (v := 0) hx hb dX12_dream_23 (by decide) ?_
      refine lv_iconst (pc := 24) (v := 3) hx hb dX12_dream_24 (by decide) ?_
      obtain ⟨r_25, hc_25, hf⟩ := bd1 hf
      refine r_dalSi (pc := 25) (Cn := "") (h := 0) (ws' := (wX12_dream E h h_inn h_tape h_far h_from h_real h_other h_kept h_set h_w h_book h_noteSort h_whose h_what h_noteIs h_fitting h_dawn h_likes h_walked h_came h_inn_creak h_inn_doorA h_inn_doorB h_inn_how h_inn_lies h_inn_isCold h_inn_falls h_inn_isFull h_inn_isTold h_inn_act h_inn_what h_inn_then h_inn_met h_inn_bed h_inn_dream h_inn_listens h_inn_name h_inn_nameSort h_inn_nameNumber 0 v_trouble v_where v_read v_taped v_size v_at v_sort v_place v_sign v_number v_fault v_wrongAt v_word v_marks v_notes v_inn_minutes v_inn_rooms v_inn_doors v_inn_things v_inn_dreams v_inn_sleepers v_inn_listeners v_inn_names v_inn_isTold v_inn_met v_inn_then v_inn_what v_inn_act)) (As := [.int p2, .int 0, .int 3]) (rest := []) C (ctX12_in l E N p2 0 3 r_25 hc_25) ml_X12_149 ⟨Nat.le_of_ble_eq_true rfl, Nat.le_of_ble_eq_true rfl⟩ hP hD hS [] [0, 1, 2, 3, 4, 5, 6] 7 rfl rfl rfl rfl rfl rfl rfl hl.1 rfl (Nat.le_of_ble_eq_true rfl) ⟨Nat.zero_le _, Nat.zero_le _⟩ dX12_dream_25 ?_
      clear hP hD hS; intro H locs hP hD hS
      refine lv_if_ne (pc := 28) (tgt := 37) hx hb dX12_dream_28 (by decide) (fun c_28 => ?_) (fun c_28 => ?_)
      · replace hf := it_f c_28 hf
        refine lv_iconst (pc := 37) (v := 4) hx hb dX12_dream_37 (by decide) ?_
        refine lv_iload_n (pc := 38) hx hb dX12_dream_38 rfl (lv_at hl 1 rfl) ?_
        refine lv_imul (pc := 39) hx hb dX12_dream_39 ?_
        refine lv_iload_n (pc := 40) hx hb dX12_dream_40 rfl (lv_at hl 2 rfl) ?_
        refine lv_iadd (pc := 41) hx hb dX12_dream_41 ?_
        refine lv_istore (pc := 42) (lv' := [(4, .int ((4 * p0) + p1)), (0, .ref h), (1, .int p0), (2, .int p1), (3, .int p2)]) hx hb dX12_dream_42 hl (by decide) rfl (fun ls hl => ?_)
        refine lv_aload_n (pc := 44) hx hb dX12_dream_44 rfl (lv_at hl 1 rfl) ?_
        refine r_get (pc := 45) C hP 0 rfl fl_X12_358 rfl dX12_dream_45 ?_
        refine r_get (pc := 48) C hP 1 rfl fl_X12_328 rfl dX12_dream_48 ?_
        refine lv_iload (pc := 51) hx hb dX12_dream_51 (lv_at hl 0 rfl) ?_
        obtain ⟨hi_53, hf⟩ := gd_s hf
        refine r_zald (pc := 53) C hP 2 rfl hi_53 dX12_dream_53 ?_
        refine lv_if_ne (pc := 54) (tgt := 64) hx hb dX12_dream_54 (by decide) (fun c_54 => ?_) (fun c_54 => ?_)
        · replace hf := it_f c_54 hf
          refine lv_aload_n (pc := 64) hx hb dX12_dream_64 rfl (lv_at hl 1 rfl) ?_
          refine lv_iload_n (pc := 65) hx hb dX12_dream_65 rfl (lv_at hl 4 rfl) ?_
          refine lv_if_ne (pc := 66) (tgt := 82) hx hb dX12_dream_66 (by decide) (fun c_66 => ?_) (fun c_66 => ?_)
          · replace hf := it_f c_66 hf
            refine lv_iload_n (pc := 82) hx hb dX12_dream_82 rfl (lv_at hl 4 rfl) ?_
            refine lv_iconst (pc := 83) (v := 1) hx hb dX12_dream_83 (by decide) ?_
            refine lv_icmp_ne (pc := 84) (tgt := 100) hx hb dX12_dream_84 (by decide) (fun c_84 => ?_) (fun c_84 => ?_)
            · replace hf := it_f c_84 hf
              refine lv_iload_n (pc := 100) hx hb dX12_dream_100 rfl (lv_at hl 4 rfl) ?_
              refine lv_iconst (pc := 101) (v := 2) hx hb dX12_dream_101 (by decide) ?_
              refine lv_icmp_ne (pc := 102) (tgt := 118) hx hb dX12_dream_102 (by decide) (fun c_102 => ?_) (fun c_102 => ?_)
              · replace hf := it_f c_102 hf
                refine lv_aload_n (pc := 118) hx hb dX12_dream_118 rfl (lv_at hl 1 rfl) ?_
                refine r_get (pc := 119) C hP 0 rfl fl_X12_358 rfl dX12_dream_119 ?_
                refine r_get (pc := 122) C hP 1 rfl fl_X12_337 rfl dX12_dream_122 ?_
                refine lv_iload (pc := 125) hx hb dX12_dream_125 (lv_at hl 0 rfl) ?_
                obtain ⟨hi_127, hf⟩ := gd_s hf
                refine r_iald (pc := 127) C hP 3 rfl hi_127 dX12_dream_127 ?_
                obtain ⟨r_128, v_trouble_128, v_where_128, hc_128, hf⟩ := bd3 hf
                refine r_dalVi (pc := 128) (ws' := (wX12_dream E h h_inn h_tape h_far h_from h_real h_other h_kept h_set h_w h_book h_noteSort h_whose h_what h_noteIs h_fitting h_dawn h_likes h_walked h_came h_inn_creak h_inn_doorA h_inn_doorB h_inn_how h_inn_lies h_inn_isCold h_inn_falls h_inn_isFull h_inn_isTold h_inn_act h_inn_what h_inn_then h_inn_met h_inn_bed h_inn_dream h_inn_listens h_inn_name h_inn_nameSort h_inn_nameNumber 0 v_trouble_128 v_where_128 v_read v_taped v_size v_at v_sort v_place v_sign v_number v_fault v_wrongAt v_word v_marks v_notes v_inn_minutes v_inn_rooms v_inn_doors v_inn_things v_inn_dreams v_inn_sleepers v_inn_listeners v_inn_names v_inn_isTold v_inn_met v_inn_then v_inn_what v_inn_act)) (As := [.int (v_inn_met ((4 * p0) + p1).toNatClampNeg)]) (rest := []) C (ctX12_good l E h h_tape h_far h_from h_real h_other h_kept h_set h_w h_book h_noteSort h_whose h_what h_noteIs h_fitting h_dawn h_likes h_walked h_came 0 v_trouble v_where (some h_inn) v_read v_taped v_size v_at v_sort v_place v_sign v_number v_fault v_wrongAt v_word v_marks v_notes N (v_inn_met ((4 * p0) + p1).toNatClampNeg) (r_128, v_trouble_128, v_where_128) hc_128) ml_X12_81 ⟨Nat.le_of_ble_eq_true rfl, Nat.le_of_ble_eq_true rfl⟩ hP hD hS 0 rfl rfl rfl [0] [7, 1, 2, 3, 4, 5, 6] 7 rfl rfl rfl rfl rfl rfl rfl hl.1 rfl (Nat.le_of_ble_eq_true rfl) ⟨Nat.zero_le _, Nat.zero_le _⟩ dX12_dream_128 ?_
                clear hP hD hS; intro H locs hP hD hS
                cases hf
                rw [hQ]
                exact r_iret C hr hP hD hS rfl dX12_dream_131
              · replace hf := it_t c_102 hf
                refine lv_aload_n (pc := 105) hx hb dX12_dream_105 rfl (lv_at hl 1 rfl) ?_
                refine r_get (pc := 106) C hP 0 rfl fl_X12_358 rfl dX12_dream_106 ?_
                refine r_get (pc := 109) C hP 1 rfl fl_X12_335 rfl dX12_dream_109 ?_
                refine lv_iload (pc := 112) hx hb dX12_dream_112 (lv_at hl 0 rfl) ?_
                obtain ⟨hi_114, hf⟩ := gd_s hf
                refine r_iald (pc := 114) C hP 4 rfl hi_114 dX12_dream_114 ?_
                refine lv_goto (pc := 115) (tgt := 128) hx hb dX12_dream_115 (by decide) ?_
                obtain ⟨r_128, v_trouble_128, v_where_128, hc_128, hf⟩ := bd3 hf
                refine r_dalVi (pc := 128) (ws' := (wX12_dream E h h_inn h_tape h_far h_from h_real h_other h_kept h_set h_w h_book h_noteSort h_whose h_what h_noteIs h_fitting h_dawn h_likes h_walked h_came h_inn_creak h_inn_doorA h_inn_doorB h_inn_how h_inn_lies h_inn_isCold h_inn_falls h_inn_isFull h_inn_isTold h_inn_act h_inn_what h_inn_then h_inn_met h_inn_bed h_inn_dream h_inn_listens h_inn_name h_inn_nameSort h_inn_nameNumber 0 v_trouble_128 v_where_128 v_read v_taped v_size v_at v_sort v_place v_sign v_number v_fault v_wrongAt v_word v_marks v_notes v_inn_minutes v_inn_rooms v_inn_doors v_inn_things v_inn_dreams v_inn_sleepers v_inn_listeners v_inn_names v_inn_isTold v_inn_met v_inn_then v_inn_what v_inn_act)) (As := [.int (v_inn_then ((4 * p0) + p1).toNatClampNeg)]) (rest := []) C (ctX12_good l E h h_tape h_far h_from h_real h_other h_kept h_set h_w h_book h_noteSort h_whose h_what h_noteIs h_fitting h_dawn h_likes h_walked h_came 0 v_trouble v_where (some h_inn) v_read v_taped v_size v_at v_sort v_place v_sign v_number v_fault v_wrongAt v_word v_marks v_notes N (v_inn_then ((4 * p0) + p1).toNatClampNeg) (r_128, v_trouble_128, v_where_128) hc_128) ml_X12_81 ⟨Nat.le_of_ble_eq_true rfl, Nat.le_of_ble_eq_true rfl⟩ hP hD hS 0 rfl rfl rfl [0] [7, 1, 2, 3, 4, 5, 6] 7 rfl rfl rfl rfl rfl rfl rfl hl.1 rfl (Nat.le_of_ble_eq_true rfl) ⟨Nat.zero_le _, Nat.zero_le _⟩ dX12_dream_128 ?_
                clear hP hD hS; intro H locs hP hD hS
                cases hf
                rw [hQ]
                exact r_iret C hr hP hD hS rfl dX12_dream_131
            · replace hf := it_t c_84 hf
              refine lv_aload_n (pc := 87) hx hb dX12_dream_87 rfl (lv_at hl 1 rfl) ?_
              refine r_get (pc := 88) C hP 0 rfl fl_X12_358 rfl dX12_dream_88 ?_
              refine r_get (pc := 91) C hP 1 rfl fl_X12_334 rfl dX12_dream_91 ?_
              refine lv_iload (pc := 94) hx hb dX12_dream_94 (lv_at hl 0 rfl) ?_
              obtain ⟨hi_96, hf⟩ := gd_s hf
              refine r_iald (pc := 96) C hP 5 rfl hi_96 dX12_dream_96 ?_
              refine lv_goto (pc := 97) (tgt := 128) hx hb dX12_dream_97 (by decide) ?_
              obtain ⟨r_128, v_trouble_128, v_where_128, hc_128, hf⟩ := bd3 hf
              refine r_dalVi (pc := 128) (ws' := (wX12_dream E h h_inn h_tape h_far h_from h_real h_other h_kept h_set h_w h_book h_noteSort h_whose h_what h_noteIs h_fitting h_dawn h_likes h_walked h_came h_inn_creak h_inn_doorA h_inn_doorB h_inn_how h_inn_lies h_inn_isCold h_inn_falls h_inn_isFull h_inn_isTold h_inn_act h_inn_what h_inn_then h_inn_met h_inn_bed h_inn_dream h_inn_listens h_inn_name h_inn_nameSort h_inn_nameNumber 0 v_trouble_128 v_where_128 v_read v_taped v_size v_at v_sort v_place v_sign v_number v_fault v_wrongAt v_word v_marks v_notes v_inn_minutes v_inn_rooms v_inn_doors v_inn_things v_inn_dreams v_inn_sleepers v_inn_listeners v_inn_names v_inn_isTold v_inn_met v_inn_then v_inn_what v_inn_act)) (As := [.int (v_inn_what ((4 * p0) + p1).toNatClampNeg)]) (rest := []) C (ctX12_good l E h h_tape h_far h_from h_real h_other h_kept h_set h_w h_book h_noteSort h_whose h_what h_noteIs h_fitting h_dawn h_likes h_walked h_came 0 v_trouble v_where (some h_inn) v_read v_taped v_size v_at v_sort v_place v_sign v_number v_fault v_wrongAt v_word v_marks v_notes N (v_inn_what ((4 * p0) + p1).toNatClampNeg) (r_128, v_trouble_128, v_where_128) hc_128) ml_X12_81 ⟨Nat.le_of_ble_eq_true rfl, Nat.le_of_ble_eq_true rfl⟩ hP hD hS 0 rfl rfl rfl [0] [7, 1, 2, 3, 4, 5, 6] 7 rfl rfl rfl rfl rfl rfl rfl hl.1 rfl (Nat.le_of_ble_eq_true rfl) ⟨Nat.zero_le _, Nat.zero_le _⟩ dX12_dream_128 ?_
              clear hP hD hS; intro H locs hP hD hS
              cases hf
              rw [hQ]
              exact r_iret C hr hP hD hS rfl dX12_dream_131
          · replace hf := it_t c_66 hf
            refine lv_aload_n (pc := 69) hx hb dX12_dream_69 rfl (lv_at hl 1 rfl) ?_
            refine r_get (pc := 70) C hP 0 rfl fl_X12_358 rfl dX12_dream_70 ?_
            refine r_get (pc := 73) C hP 1 rfl fl_X12_331 rfl dX12_dream_73 ?_
            refine lv_iload (pc := 76) hx hb dX12_dream_76 (lv_at hl 0 rfl) ?_
            obtain ⟨hi_78, hf⟩ := gd_s hf
            refine r_iald (pc := 78) C hP 6 rfl hi_78 dX12_dream_78 ?_
            refine lv_goto (pc := 79) (tgt := 128) hx hb dX12_dream_79 (by decide) ?_
            obtain ⟨r_128, v_trouble_128, v_where_128, hc_128, hf⟩ := bd3 hf
            refine r_dalVi (pc := 128) (ws' := (wX12_dream E h h_inn h_tape h_far h_from h_real h_other h_kept h_set h_w h_book h_noteSort h_whose h_what h_noteIs h_fitting h_dawn h_likes h_walked h_came h_inn_creak h_inn_doorA h_inn_doorB h_inn_how h_inn_lies h_inn_isCold h_inn_falls h_inn_isFull h_inn_isTold h_inn_act h_inn_what h_inn_then h_inn_met h_inn_bed h_inn_dream h_inn_listens h_inn_name h_inn_nameSort h_inn_nameNumber 0 v_trouble_128 v_where_128 v_read v_taped v_size v_at v_sort v_place v_sign v_number v_fault v_wrongAt v_word v_marks v_notes v_inn_minutes v_inn_rooms v_inn_doors v_inn_things v_inn_dreams v_inn_sleepers v_inn_listeners v_inn_names v_inn_isTold v_inn_met v_inn_then v_inn_what v_inn_act)) (As := [.int (v_inn_act ((4 * p0) + p1).toNatClampNeg)]) (rest := []) C (ctX12_good l E h h_tape h_far h_from h_real h_other h_kept h_set h_w h_book h_noteSort h_whose h_what h_noteIs h_fitting h_dawn h_likes h_walked h_came 0 v_trouble v_where (some h_inn) v_read v_taped v_size v_at v_sort v_place v_sign v_number v_fault v_wrongAt v_word v_marks v_notes N (v_inn_act ((4 * p0) + p1).toNatClampNeg) (r_128, v_trouble_128, v_where_128) hc_128) ml_X12_81 ⟨Nat.le_of_ble_eq_true rfl, Nat.le_of_ble_eq_true rfl⟩ hP hD hS 0 rfl rfl rfl [0] [7, 1, 2, 3, 4, 5, 6] 7 rfl rfl rfl rfl rfl rfl rfl hl.1 rfl (Nat.le_of_ble_eq_true rfl) ⟨Nat.zero_le _, Nat.zero_le _⟩ dX12_dream_128 ?_
            clear hP hD hS; intro H locs hP hD hS
            cases hf
            rw [hQ]
            exact r_iret C hr hP hD hS rfl dX12_dream_131
        · replace hf := it_t c_54 hf
          refine lv_aload_n (pc := 57) hx hb dX12_dream_57 rfl (lv_at hl 1 rfl) ?_
          refine lv_bipush (pc := 58) (v := 6) hx hb dX12_dream_58 (by decide) ?_
          obtain ⟨r_60, v_trouble_60, v_where_60, hc_60, hf⟩ := bd3 hf
          refine r_dalVi (pc := 60) (ws' := (wX12_dream E h h_inn h_tape h_far h_from h_real h_other h_kept h_set h_w h_book h_noteSort h_whose h_what h_noteIs h_fitting h_dawn h_likes h_walked h_came h_inn_creak h_inn_doorA h_inn_doorB h_inn_how h_inn_lies h_inn_isCold h_inn_falls h_inn_isFull h_inn_isTold h_inn_act h_inn_what h_inn_then h_inn_met h_inn_bed h_inn_dream h_inn_listens h_inn_name h_inn_nameSort h_inn_nameNumber 0 v_trouble_60 v_where_60 v_read v_taped v_size v_at v_sort v_place v_sign v_number v_fault v_wrongAt v_word v_marks v_notes v_inn_minutes v_inn_rooms v_inn_doors v_inn_things v_inn_dreams v_inn_sleepers v_inn_listeners v_inn_names v_inn_isTold v_inn_met v_inn_then v_inn_what v_inn_act)) (As := [.int 6]) (rest := []) C (ctX12_refused l E h h_tape h_far h_from h_real h_other h_kept h_set h_w h_book h_noteSort h_whose h_what h_noteIs h_fitting h_dawn h_likes h_walked h_came 0 v_trouble v_where (some h_inn) v_read v_taped v_size v_at v_sort v_place v_sign v_number v_fault v_wrongAt v_word v_marks v_notes N 6 (r_60, v_trouble_60, v_where_60) hc_60) ml_X12_77 ⟨Nat.le_of_ble_eq_true rfl, Nat.le_of_ble_eq_true rfl⟩ hP hD hS 0 rfl rfl rfl [0] [7, 1, 2, 3, 4, 5, 6] 7 rfl rfl rfl rfl rfl rfl rfl hl.1 rfl (Nat.le_of_ble_eq_true rfl) ⟨Nat.zero_le _, Nat.zero_le _⟩ dX12_dream_60 ?_
          clear hP hD hS; intro H locs hP hD hS
          cases hf
          rw [hQ]
          exact r_iret C hr hP hD hS rfl dX12_dream_63
      · replace hf := it_t c_28 hf
        refine lv_aload_n (pc := 31) hx hb dX12_dream_31 rfl (lv_at hl 0 rfl) ?_
        refine lv_iconst (pc := 32) (v := 1) hx hb dX12_dream_32 (by decide) ?_
        obtain ⟨r_33, v_trouble_33, v_where_33, hc_33, hf⟩ := bd3 hf
        refine r_dalVi (pc := 33) (ws' := (wX12_dream E h h_inn h_tape h_far h_from h_real h_other h_kept h_set h_w h_book h_noteSort h_whose h_what h_noteIs h_fitting h_dawn h_likes h_walked h_came h_inn_creak h_inn_doorA h_inn_doorB h_inn_how h_inn_lies h_inn_isCold h_inn_falls h_inn_isFull h_inn_isTold h_inn_act h_inn_what h_inn_then h_inn_met h_inn_bed h_inn_dream h_inn_listens h_inn_name h_inn_nameSort h_inn_nameNumber 0 v_trouble_33 v_where_33 v_read v_taped v_size v_at v_sort v_place v_sign v_number v_fault v_wrongAt v_word v_marks v_notes v_inn_minutes v_inn_rooms v_inn_doors v_inn_things v_inn_dreams v_inn_sleepers v_inn_listeners v_inn_names v_inn_isTold v_inn_met v_inn_then v_inn_what v_inn_act)) (As := [.int 1]) (rest := []) C (ctX12_refused l E h h_tape h_far h_from h_real h_other h_kept h_set h_w h_book h_noteSort h_whose h_what h_noteIs h_fitting h_dawn h_likes h_walked h_came 0 v_trouble v_where (some h_inn) v_read v_taped v_size v_at v_sort v_place v_sign v_number v_fault v_wrongAt v_word v_marks v_notes N 1 (r_33, v_trouble_33, v_where_33) hc_33) ml_X12_77 ⟨Nat.le_of_ble_eq_true rfl, Nat.le_of_ble_eq_true rfl⟩ hP hD hS 0 rfl rfl rfl [0] [7, 1, 2, 3, 4, 5, 6] 7 rfl rfl rfl rfl rfl rfl rfl hl.1 rfl (Nat.le_of_ble_eq_true rfl) ⟨Nat.zero_le _, Nat.zero_le _⟩ dX12_dream_33 ?_
        clear hP hD hS; intro H locs hP hD hS
        cases hf
        rw [hQ]
        exact r_iret C hr hP hD hS rfl dX12_dream_36
def wX12_dream0 (E : EN) (h h_tape h_far h_from h_real h_other h_kept h_set h_w h_book h_noteSort h_whose h_what h_noteIs h_fitting h_dawn h_likes h_walked h_came : Nat) (v_thrown : Int32) (v_trouble : Int32) (v_where : Int32) (v_read : Option Nat) (v_taped : Int32) (v_size : Int32) (v_at : Int32) (v_sort : Int32) (v_place : Int32) (v_sign : Int32) (v_number : Int32) (v_fault : Int32) (v_wrongAt : Int32) (v_word : Int64) (v_marks : Int32) (v_notes : Int32) : va_W := [(h, .inr (11, [.int v_thrown, .int v_trouble, .int v_where, .null, va_rf v_read, .ref h_tape, .int v_taped, .int v_size, .int v_at, .int v_sort, .int v_place, .int v_sign, .int v_number, .int v_fault, .int v_wrongAt, .long v_word, .ref h_far, .ref h_from, .ref h_real, .ref h_other, .ref h_kept, .ref h_set, .ref h_w, .int v_marks, .int v_notes, .ref h_book, .ref h_noteSort, .ref h_whose, .ref h_what, .ref h_noteIs, .ref h_fitting, .ref h_dawn, .ref h_likes, .ref h_walked, .ref h_came]))]
def fX12_dream0 (N : Nat) (p1 : Int32) (p2 : Int32) : Option (Int32 × Int32 × Int32 × Int32) := (fX12_isDream0 N).bind (un1 fun (r_7 : Int32) => if r_7 = 0 then ((fX12_refused N 1).bind (un3 fun (r_33 : Int32) (v_trouble_33 : Int32) (v_where_33 : Int32) => some (r_33, 0, v_trouble_33, v_where_33))) else ((fX12_in N p1 0 3).bind (un1 fun (r_16 : Int32) => if r_16 = 0 then ((fX12_refused N 1).bind (un3 fun (r_33 : Int32) (v_trouble_33 : Int32) (v_where_33 : Int32) => some (r_33, 0, v_trouble_33, v_where_33))) else ((fX12_in N p2 0 3).bind (un1 fun (r_25 : Int32) => if r_25 = 0 then ((fX12_refused N 1).bind (un3 fun (r_33 : Int32) (v_trouble_33 : Int32) (v_where_33 : Int32) => some (r_33, 0, v_trouble_33, v_where_33))) else (none))))))
set_option maxHeartbeats 4000000 in
set_option maxRecDepth 100000 in
theorem ctX12_dream0 (l : Launch) (E : EN) (h h_tape h_far h_from h_real h_other h_kept h_set h_w h_book h_noteSort h_whose h_what h_noteIs h_fitting h_dawn h_likes h_walked h_came : Nat) (v_thrown : Int32) (v_trouble : Int32) (v_where : Int32) (v_read : Option Nat) (v_taped : Int32) (v_size : Int32) (v_at : Int32) (v_sort : Int32) (v_place : Int32) (v_sign : Int32) (v_number : Int32) (v_fault : Int32) (v_wrongAt : Int32) (v_word : Int64) (v_marks : Int32) (v_notes : Int32) (N : Nat) (p0 : Int32) (p1 : Int32) (p2 : Int32) (z : Int32 × Int32 × Int32 × Int32) (hf : fX12_dream0 N p1 p2 = some z) : CTi l E yX12_dream cX12_dream 5 .int 1 22 [.ref h, .int p0, .int p1, .int p2] (wX12_dream0 E h h_tape h_far h_from h_real h_other h_kept h_set h_w h_book h_noteSort h_whose h_what h_noteIs h_fitting h_dawn h_likes h_walked h_came v_thrown v_trouble v_where v_read v_taped v_size v_at v_sort v_place v_sign v_number v_fault v_wrongAt v_word v_marks v_notes) (z.1) (wX12_dream0 E h h_tape h_far h_from h_real h_other h_kept h_set h_w h_book h_noteSort h_whose h_what h_noteIs h_fitting h_dawn h_likes h_walked h_came z.2.1 z.2.2.1 z.2.2.2 v_read v_taped v_size v_at v_sort v_place v_sign v_number v_fault v_wrongAt v_word v_marks v_notes) := by
  intro sz
  refine ct_body (by decide) (Nat.le_of_ble_eq_true rfl) ?_
  intro p e s m args below meth c A ls hAe C hr hin hP hD hS hl
  have C : CX p s m args meth c cX12_dream RX12 5 E A := C
  have hl : lv_has ls 5 [(0, .ref h), (1, .int p0), (2, .int p1), (3, .int p2)] := hl
  have hx := C.1
  have hb := C.2.1
  rw [hAe]
  clear hAe
  obtain ⟨Q, hQ⟩ : ∃ Q, Q = MQ below (Qi E A (z.1) (wX12_dream0 E h h_tape h_far h_from h_real h_other h_kept h_set h_w h_book h_noteSort h_whose h_what h_noteIs h_fitting h_dawn h_likes h_walked h_came z.2.1 z.2.2.1 z.2.2.2 v_read v_taped v_size v_at v_sort v_place v_sign v_number v_fault v_wrongAt v_word v_marks v_notes)) args s 0 0 A := ⟨_, rfl⟩
  rw [← hQ]
  unfold fX12_dream0 at hf
  refine lv_aload_n (pc := 0) hx hb dX12_dream_0 rfl (lv_at hl 0 rfl) ?_
  refine lv_iconst (pc := 1) (v := 0) hx hb dX12_dream_1 (by decide) ?_
  refine r_put (pc := 2) (ws' := (wX12_dream0 E h h_tape h_far h_from h_real h_other h_kept h_set h_w h_book h_noteSort h_whose h_what h_noteIs h_fitting h_dawn h_likes h_walked h_came 0 v_trouble v_where v_read v_taped v_size v_at v_sort v_place v_sign v_number v_fault v_wrongAt v_word v_marks v_notes)) C hP hD hS 0 rfl fl_X12_71 rfl rfl (Nat.le_of_ble_eq_true rfl) rfl dX12_dream_2 ?_
  clear hP hD hS; intro H locs hP hD hS
  refine lv_aload_n (pc := 5) hx hb dX12_dream_5 rfl (lv_at hl 0 rfl) ?_
  refine lv_iload_n (pc := 6) hx hb dX12_dream_6 rfl (lv_at hl 1 rfl) ?_
  obtain ⟨r_7, hc_7, hf⟩ := bd1 hf
  refine r_dalVi (pc := 7) (ws' := (wX12_dream0 E h h_tape h_far h_from h_real h_other h_kept h_set h_w h_book h_noteSort h_whose h_what h_noteIs h_fitting h_dawn h_likes h_walked h_came 0 v_trouble v_where v_read v_taped v_size v_at v_sort v_place v_sign v_number v_fault v_wrongAt v_word v_marks v_notes)) (As := [.int p0]) (rest := []) C (ctX12_isDream0 l E h h_tape h_far h_from h_real h_other h_kept h_set h_w h_book h_noteSort h_whose h_what h_noteIs h_fitting h_dawn h_likes h_walked h_came 0 v_trouble v_where v_read v_taped v_size v_at v_sort v_place v_sign v_number v_fault v_wrongAt v_word v_marks v_notes N p0 r_7 hc_7) ml_X12_382 ⟨Nat.le_of_ble_eq_true rfl, Nat.le_of_ble_eq_true rfl⟩ hP hD hS 0 rfl rfl rfl [0] [1] 1 rfl rfl rfl rfl rfl rfl rfl hl.1 rfl (Nat.le_of_ble_eq_true rfl) ⟨Nat.zero_le _, Nat.zero_le _⟩ dX12_dream_7 ?_
  clear hP hD hS; intro H locs hP hD hS
  refine lv_if_eq (pc := 10) (tgt := 31) hx hb dX12_dream_10 (by decide) (fun c_10 => ?_) (fun c_10 => ?_)
  · replace hf := it_t c_10 hf
    refine lv_aload_n (pc := 31) hx hb dX12_dream_31 rfl (lv_at hl 0 rfl) ?_
    refine lv_iconst (pc := 32) (v := 1) hx hb dX12_dream_32 (by decide) ?_
    obtain ⟨r_33, v_trouble_33, v_where_33, hc_33, hf⟩ := bd3 hf
    refine r_dalVi (pc := 33) (ws' := (wX12_dream0 E h h_tape h_far h_from h_real h_other h_kept h_set h_w h_book h_noteSort h_whose h_what h_noteIs h_fitting h_dawn h_likes h_walked h_came 0 v_trouble_33 v_where_33 v_read v_taped v_size v_at v_sort v_place v_sign v_number v_fault v_wrongAt v_word v_marks v_notes)) (As := [.int 1]) (rest := []) C (ctX12_refused l E h h_tape h_far h_from h_real h_other h_kept h_set h_w h_book h_noteSort h_whose h_what h_noteIs h_fitting h_dawn h_likes h_walked h_came 0 v_trouble v_where none v_read v_taped v_size v_at v_sort v_place v_sign v_number v_fault v_wrongAt v_word v_marks v_notes N 1 (r_33, v_trouble_33, v_where_33) hc_33) ml_X12_77 ⟨Nat.le_of_ble_eq_true rfl, Nat.le_of_ble_eq_true rfl⟩ hP hD hS 0 rfl rfl rfl [0] [1] 1 rfl rfl rfl rfl rfl rfl rfl hl.1 rfl (Nat.le_of_ble_eq_true rfl) ⟨Nat.zero_le _, Nat.zero_le _⟩ dX12_dream_33 ?_
    clear hP hD hS; intro H locs hP hD hS
    cases hf
    rw [hQ]
    exact r_iret C hr hP hD hS rfl dX12_dream_36
  · replace hf := it_f c_10 hf
    refine lv_iload_n (pc := 13) hx hb dX12_dream_13 rfl (lv_at hl 2 rfl) ?_
    refine lv_iconst (pc := 14) (v := 0) hx hb dX12_dream_14 (by decide) ?_
    refine lv_iconst (pc := 15) (v := 3) hx hb dX12_dream_15 (by decide) ?_
    obtain ⟨r_16, hc_16, hf⟩ := bd1 hf
    refine r_dalSi (pc := 16) (Cn := "") (h := 0) (ws' := (wX12_dream0 E h h_tape h_far h_from h_real h_other h_kept h_set h_w h_book h_noteSort h_whose h_what h_noteIs h_fitting h_dawn h_likes h_walked h_came 0 v_trouble v_where v_read v_taped v_size v_at v_sort v_place v_sign v_number v_fault v_wrongAt v_word v_marks v_notes)) (As := [.int p1, .int 0, .int 3]) (rest := []) C (ctX12_in l E N p1 0 3 r_16 hc_16) ml_X12_149 ⟨Nat.le_of_ble_eq_true rfl, Nat.le_of_ble_eq_true rfl⟩ hP hD hS [] [0] 1 rfl rfl rfl rfl rfl rfl rfl hl.1 rfl (Nat.le_of_ble_eq_true rfl) ⟨Nat.zero_le _, Nat.zero_le _⟩ dX12_dream_16 ?_
    clear hP hD hS; intro H locs hP hD hS
    refine lv_if_eq (pc := 19) (tgt := 31) hx hb dX12_dream_19 (by decide) (fun c_19 => ?_) (fun c_19 => ?_)
    · replace hf := it_t c_19 hf
      refine lv_aload_n (pc := 31) hx hb dX12_dream_31 rfl (lv_at hl 0 rfl) ?_
      refine lv_iconst (pc := 32) (v := 1) hx hb dX12_dream_32 (by decide) ?_
      obtain ⟨r_33, v_trouble_33, v_where_33, hc_33, hf⟩ := bd3 hf
      refine r_dalVi (pc := 33) (ws' := (wX12_dream0 E h h_tape h_far h_from h_real h_other h_kept h_set h_w h_book h_noteSort h_whose h_what h_noteIs h_fitting h_dawn h_likes h_walked h_came 0 v_trouble_33 v_where_33 v_read v_taped v_size v_at v_sort v_place v_sign v_number v_fault v_wrongAt v_word v_marks v_notes)) (As := [.int 1]) (rest := []) C (ctX12_refused l E h h_tape h_far h_from h_real h_other h_kept h_set h_w h_book h_noteSort h_whose h_what h_noteIs h_fitting h_dawn h_likes h_walked h_came 0 v_trouble v_where none v_read v_taped v_size v_at v_sort v_place v_sign v_number v_fault v_wrongAt v_word v_marks v_notes N 1 (r_33, v_trouble_33, v_where_33) hc_33) ml_X12_77 ⟨Nat.le_of_ble_eq_true rfl, Nat.le_of_ble_eq_true rfl⟩ hP hD hS 0 rfl rfl rfl [0] [1] 1 rfl rfl rfl rfl rfl rfl rfl hl.1 rfl (Nat.le_of_ble_eq_true rfl) ⟨Nat.zero_le _, Nat.zero_le _⟩ dX12_dream_33 ?_
      clear hP hD hS; intro H locs hP hD hS
      cases hf
      rw [hQ]
      exact r_iret C hr hP hD hS rfl dX12_dream_36
    · replace hf := it_f c_19 hf
      refine lv_iload_n (pc := 22) hx hb dX12_dream_22 rfl (lv_at hl 3 rfl) ?_
      refine lv_iconst (pc := 23) (v := 0) hx hb dX12_dream_23 (by decide) ?_
      refine lv_iconst (pc := 24) (v := 3) hx hb dX12_dream_24 (by decide) ?_
      obtain ⟨r_25, hc_25, hf⟩ := bd1 hf
      refine r_dalSi (pc := 25) (Cn := "") (h := 0) (ws' := (wX12_dream0 E h h_tape h_far h_from h_real h_other h_kept h_set h_w h_book h_noteSort h_whose h_what h_noteIs h_fitting h_dawn h_likes h_walked h_came 0 v_trouble v_where v_read v_taped v_size v_at v_sort v_place v_sign v_number v_fault v_wrongAt v_word v_marks v_notes)) (As := [.int p2, .int 0, .int 3]) (rest := []) C (ctX12_in l E N p2 0 3 r_25 hc_25) ml_X12_149 ⟨Nat.le_of_ble_eq_true rfl, Nat.le_of_ble_eq_true rfl⟩ hP hD hS [] [0] 1 rfl rfl rfl rfl rfl rfl rfl hl.1 rfl (Nat.le_of_ble_eq_true rfl) ⟨Nat.zero_le _, Nat.zero_le _⟩ dX12_dream_25 ?_
      clear hP hD hS; intro H locs hP hD hS
      refine lv_if_ne (pc := 28) (tgt := 37) hx hb dX12_dream_28 (by decide) (fun c_28 => ?_) (fun c_28 => ?_)
      · replace hf := it_f c_28 hf
        refine lv_iconst (pc := 37) (v := 4) hx hb dX12_dream_37 (by decide) ?_
        refine lv_iload_n (pc := 38) hx hb dX12_dream_38 rfl (lv_at hl 1 rfl) ?_
        refine lv_imul (pc := 39) hx hb dX12_dream_39 ?_
        refine lv_iload_n (pc := 40) hx hb dX12_dream_40 rfl (lv_at hl 2 rfl) ?_
        refine lv_iadd (pc := 41) hx hb dX12_dream_41 ?_
        refine lv_istore (pc := 42) (lv' := [(4, .int ((4 * p0) + p1)), (0, .ref h), (1, .int p0), (2, .int p1), (3, .int p2)]) hx hb dX12_dream_42 hl (by decide) rfl (fun ls hl => ?_)
        refine lv_aload_n (pc := 44) hx hb dX12_dream_44 rfl (lv_at hl 1 rfl) ?_
        refine r_get (pc := 45) C hP 0 rfl fl_X12_358 rfl dX12_dream_45 ?_
        cases hf
      · replace hf := it_t c_28 hf
        refine lv_aload_n (pc := 31) hx hb dX12_dream_31 rfl (lv_at hl 0 rfl) ?_
        refine lv_iconst (pc := 32) (v := 1) hx hb dX12_dream_32 (by decide) ?_
        obtain ⟨r_33, v_trouble_33, v_where_33, hc_33, hf⟩ := bd3 hf
        refine r_dalVi (pc := 33) (ws' := (wX12_dream0 E h h_tape h_far h_from h_real h_other h_kept h_set h_w h_book h_noteSort h_whose h_what h_noteIs h_fitting h_dawn h_likes h_walked h_came 0 v_trouble_33 v_where_33 v_read v_taped v_size v_at v_sort v_place v_sign v_number v_fault v_wrongAt v_word v_marks v_notes)) (As := [.int 1]) (rest := []) C (ctX12_refused l E h h_tape h_far h_from h_real h_other h_kept h_set h_w h_book h_noteSort h_whose h_what h_noteIs h_fitting h_dawn h_likes h_walked h_came 0 v_trouble v_where none v_read v_taped v_size v_at v_sort v_place v_sign v_number v_fault v_wrongAt v_word v_marks v_notes N 1 (r_33, v_trouble_33, v_where_33) hc_33) ml_X12_77 ⟨Nat.le_of_ble_eq_true rfl, Nat.le_of_ble_eq_true rfl⟩ hP hD hS 0 rfl rfl rfl [0] [1] 1 rfl rfl rfl rfl rfl rfl rfl hl.1 rfl (Nat.le_of_ble_eq_true rfl) ⟨Nat.zero_le _, Nat.zero_le _⟩ dX12_dream_33 ?_
        clear hP hD hS; intro H locs hP hD hS
        cases hf
        rw [hQ]
        exact r_iret C hr hP hD hS rfl dX12_dream_36
def wX12_settings (E : EN) (h h_inn h_tape h_far h_from h_real h_other h_kept h_set h_w h_book h_noteSort h_whose h_what h_noteIs h_fitting h_dawn h_likes h_walked h_came h_inn_creak h_inn_doorA h_inn_doorB h_inn_how h_inn_lies h_inn_isCold h_inn_falls h_inn_isFull h_inn_isTold h_inn_act h_inn_what h_inn_then h_inn_met h_inn_bed h_inn_dream h_inn_listens h_inn_name h_inn_nameSort h_inn_nameNumber : Nat) (v_thrown : Int32) (v_trouble : Int32) (v_where : Int32) (v_read : Option Nat) (v_taped : Int32) (v_size : Int32) (v_at : Int32) (v_sort : Int32) (v_place : Int32) (v_sign : Int32) (v_number : Int32) (v_fault : Int32) (v_wrongAt : Int32) (v_word : Int64) (v_marks : Int32) (v_notes : Int32) (v_inn_minutes : Int32) (v_inn_rooms : Int32) (v_inn_doors : Int32) (v_inn_things : Int32) (v_inn_dreams : Int32) (v_inn_sleepers : Int32) (v_inn_listeners : Int32) (v_inn_names : Int32) : va_W := [(h, .inr (11, [.int v_thrown, .int v_trouble, .int v_where, .ref h_inn, va_rf v_read, .ref h_tape, .int v_taped, .int v_size, .int v_at, .int v_sort, .int v_place, .int v_sign, .int v_number, .int v_fault, .int v_wrongAt, .long v_word, .ref h_far, .ref h_from, .ref h_real, .ref h_other, .ref h_kept, .ref h_set, .ref h_w, .int v_marks, .int v_notes, .ref h_book, .ref h_noteSort, .ref h_whose, .ref h_what, .ref h_noteIs, .ref h_fitting, .ref h_dawn, .ref h_likes, .ref h_walked, .ref h_came])), (h_inn, .inr (10, [.int v_inn_minutes, .int v_inn_rooms, .int v_inn_doors, .int v_inn_things, .int v_inn_dreams, .int v_inn_sleepers, .int v_inn_listeners, .int v_inn_names, .ref h_inn_creak, .ref h_inn_doorA, .ref h_inn_doorB, .ref h_inn_how, .ref h_inn_lies, .ref h_inn_isCold, .ref h_inn_falls, .ref h_inn_isFull, .ref h_inn_isTold, .ref h_inn_act, .ref h_inn_what, .ref h_inn_then, .ref h_inn_met, .ref h_inn_bed, .ref h_inn_dream, .ref h_inn_listens, .ref h_inn_name, .ref h_inn_nameSort, .ref h_inn_nameNumber]))]
def fX12_settings (N : Nat) (v_inn_doors : Int32) : Option Int32 := some (1 + (2 * v_inn_doors))
set_option maxHeartbeats 4000000 in
set_option maxRecDepth 100000 in
theorem ctX12_settings (l : Launch) (E : EN) (h h_inn h_tape h_far h_from h_real h_other h_kept h_set h_w h_book h_noteSort h_whose h_what h_noteIs h_fitting h_dawn h_likes h_walked h_came h_inn_creak h_inn_doorA h_inn_doorB h_inn_how h_inn_lies h_inn_isCold h_inn_falls h_inn_isFull h_inn_isTold h_inn_act h_inn_what h_inn_then h_inn_met h_inn_bed h_inn_dream h_inn_listens h_inn_name h_inn_nameSort h_inn_nameNumber : Nat) (v_thrown : Int32) (v_trouble : Int32) (v_where : Int32) (v_read : Option Nat) (v_taped : Int32) (v_size : Int32) (v_at : Int32) (v_sort : Int32) (v_place : Int32) (v_sign : Int32) (v_number : Int32) (v_fault : Int32) (v_wrongAt : Int32) (v_word : Int64) (v_marks : Int32) (v_notes : Int32) (v_inn_minutes : Int32) (v_inn_rooms : Int32) (v_inn_doors : Int32) (v_inn_things : Int32) (v_inn_dreams : Int32) (v_inn_sleepers : Int32) (v_inn_listeners : Int32) (v_inn_names : Int32) (N : Nat) (z : Int32) (hf : fX12_settings N v_inn_doors = some z) : CTi l E yX12_settings cX12_settings 1 .int 0 0 [.ref h] (wX12_settings E h h_inn h_tape h_far h_from h_real h_other h_kept h_set h_w h_book h_noteSort h_whose h_what h_noteIs h_fitting h_dawn h_likes h_walked h_came h_inn_creak h_inn_doorA h_inn_doorB h_inn_how h_inn_lies h_inn_isCold h_inn_falls h_inn_isFull h_inn_isTold h_inn_act h_inn_what h_inn_then h_inn_met h_inn_bed h_inn_dream h_inn_listens h_inn_name h_inn_nameSort h_inn_nameNumber v_thrown v_trouble v_where v_read v_taped v_size v_at v_sort v_place v_sign v_number v_fault v_wrongAt v_word v_marks v_notes v_inn_minutes v_inn_rooms v_inn_doors v_inn_things v_inn_dreams v_inn_sleepers v_inn_listeners v_inn_names) (z) (wX12_settings E h h_inn h_tape h_far h_from h_real h_other h_kept h_set h_w h_book h_noteSort h_whose h_what h_noteIs h_fitting h_dawn h_likes h_walked h_came h_inn_creak h_inn_doorA h_inn_doorB h_inn_how h_inn_lies h_inn_isCold h_inn_falls h_inn_isFull h_inn_isTold h_inn_act h_inn_what h_inn_then h_inn_met h_inn_bed h_inn_dream h_inn_listens h_inn_name h_inn_nameSort h_inn_nameNumber v_thrown v_trouble v_where v_read v_taped v_size v_at v_sort v_place v_sign v_number v_fault v_wrongAt v_word v_marks v_notes v_inn_minutes v_inn_rooms v_inn_doors v_inn_things v_inn_dreams v_inn_sleepers v_inn_listeners v_inn_names) := by
  intro sz
  refine ct_body (by decide) (Nat.le_of_ble_eq_true rfl) ?_
  intro p e s m args below meth c A ls hAe C hr hin hP hD hS hl
  have C : CX p s m args meth c cX12_settings RX12 1 E A := C
  have hl : lv_has ls 1 [(0, .ref h)] := hl
  have hx := C.1
  have hb := C.2.1
  rw [hAe]
  clear hAe
  obtain ⟨Q, hQ⟩ : ∃ Q, Q = MQ below (Qi E A (z) (wX12_settings E h h_inn h_tape h_far h_from h_real h_other h_kept h_set h_w h_book h_noteSort h_whose h_what h_noteIs h_fitting h_dawn h_likes h_walked h_came h_inn_creak h_inn_doorA h_inn_doorB h_inn_how h_inn_lies h_inn_isCold h_inn_falls h_inn_isFull h_inn_isTold h_inn_act h_inn_what h_inn_then h_inn_met h_inn_bed h_inn_dream h_inn_listens h_inn_name h_inn_nameSort h_inn_nameNumber v_thrown v_trouble v_where v_read v_taped v_size v_at v_sort v_place v_sign v_number v_fault v_wrongAt v_word v_marks v_notes v_inn_minutes v_inn_rooms v_inn_doors v_inn_things v_inn_dreams v_inn_sleepers v_inn_listeners v_inn_names)) args s 0 0 A := ⟨_, rfl⟩
  rw [← hQ]
  unfold fX12_settings at hf
  refine lv_iconst (pc := 0) (v := 1) hx hb dX12_settings_0 (by decide) ?_
  refine lv_iconst (pc := 1) (v := 2) hx hb dX12_settings_1 (by decide) ?_
  refine lv_aload_n (pc := 2) hx hb dX12_settings_2 rfl (lv_at hl 0 rfl) ?_
  refine r_get (pc := 3) C hP 0 rfl fl_X12_358 rfl dX12_settings_3 ?_
  refine r_get (pc := 6) C hP 1 rfl fl_X12_292 rfl dX12_settings_6 ?_
  refine lv_imul (pc := 9) hx hb dX12_settings_9 ?_
  refine lv_iadd (pc := 10) hx hb dX12_settings_10 ?_
  cases hf
  rw [hQ]
  exact r_iret C hr hP hD hS rfl dX12_settings_11
def wX12_isSetting (E : EN) (h h_inn h_tape h_far h_from h_real h_other h_kept h_set h_w h_book h_noteSort h_whose h_what h_noteIs h_fitting h_dawn h_likes h_walked h_came h_inn_creak h_inn_doorA h_inn_doorB h_inn_how h_inn_lies h_inn_isCold h_inn_falls h_inn_isFull h_inn_isTold h_inn_act h_inn_what h_inn_then h_inn_met h_inn_bed h_inn_dream h_inn_listens h_inn_name h_inn_nameSort h_inn_nameNumber : Nat) (v_thrown : Int32) (v_trouble : Int32) (v_where : Int32) (v_read : Option Nat) (v_taped : Int32) (v_size : Int32) (v_at : Int32) (v_sort : Int32) (v_place : Int32) (v_sign : Int32) (v_number : Int32) (v_fault : Int32) (v_wrongAt : Int32) (v_word : Int64) (v_marks : Int32) (v_notes : Int32) (v_inn_minutes : Int32) (v_inn_rooms : Int32) (v_inn_doors : Int32) (v_inn_things : Int32) (v_inn_dreams : Int32) (v_inn_sleepers : Int32) (v_inn_listeners : Int32) (v_inn_names : Int32) : va_W := [(h, .inr (11, [.int v_thrown, .int v_trouble, .int v_where, .ref h_inn, va_rf v_read, .ref h_tape, .int v_taped, .int v_size, .int v_at, .int v_sort, .int v_place, .int v_sign, .int v_number, .int v_fault, .int v_wrongAt, .long v_word, .ref h_far, .ref h_from, .ref h_real, .ref h_other, .ref h_kept, .ref h_set, .ref h_w, .int v_marks, .int v_notes, .ref h_book, .ref h_noteSort, .ref h_whose, .ref h_what, .ref h_noteIs, .ref h_fitting, .ref h_dawn, .ref h_likes, .ref h_walked, .ref h_came])), (h_inn, .inr (10, [.int v_inn_minutes, .int v_inn_rooms, .int v_inn_doors, .int v_inn_things, .int v_inn_dreams, .int v_inn_sleepers, .int v_inn_listeners, .int v_inn_names, .ref h_inn_creak, .ref h_inn_doorA, .ref h_inn_doorB, .ref h_inn_how, .ref h_inn_lies, .ref h_inn_isCold, .ref h_inn_falls, .ref h_inn_isFull, .ref h_inn_isTold, .ref h_inn_act, .ref h_inn_what, .ref h_inn_then, .ref h_inn_met, .ref h_inn_bed, .ref h_inn_dream, .ref h_inn_listens, .ref h_inn_name, .ref h_inn_nameSort, .ref h_inn_nameNumber]))]
def fX12_isSetting (N : Nat) (p0 : Int32) (v_inn_doors : Int32) : Option Int32 := jn (un0 (some 0)) (fun j23 => if p0 < 0 then (j23 ()) else ((fX12_settings N v_inn_doors).bind (un1 fun (r_13 : Int32) => if r_13 ≤ p0 then (j23 ()) else (some 1))))
set_option maxHeartbeats 4000000 in
set_option maxRecDepth 100000 in
theorem ctX12_isSetting (l : Launch) (E : EN) (h h_inn h_tape h_far h_from h_real h_other h_kept h_set h_w h_book h_noteSort h_whose h_what h_noteIs h_fitting h_dawn h_likes h_walked h_came h_inn_creak h_inn_doorA h_inn_doorB h_inn_how h_inn_lies h_inn_isCold h_inn_falls h_inn_isFull h_inn_isTold h_inn_act h_inn_what h_inn_then h_inn_met h_inn_bed h_inn_dream h_inn_listens h_inn_name h_inn_nameSort h_inn_nameNumber : Nat) (v_thrown : Int32) (v_trouble : Int32) (v_where : Int32) (v_read : Option Nat) (v_taped : Int32) (v_size : Int32) (v_at : Int32) (v_sort : Int32) (v_place : Int32) (v_sign : Int32) (v_number : Int32) (v_fault : Int32) (v_wrongAt : Int32) (v_word : Int64) (v_marks : Int32) (v_notes : Int32) (v_inn_minutes : Int32) (v_inn_rooms : Int32) (v_inn_doors : Int32) (v_inn_things : Int32) (v_inn_dreams : Int32) (v_inn_sleepers : Int32) (v_inn_listeners : Int32) (v_inn_names : Int32) (N : Nat) (p0 : Int32) (z : Int32) (hf : fX12_isSetting N p0 v_inn_doors = some z) : CTi l E yX12_isSetting cX12_isSetting 2 .boolean 1 20 [.ref h, .int p0] (wX12_isSetting E h h_inn h_tape h_far h_from h_real h_other h_kept h_set h_w h_book h_noteSort h_whose h_what h_noteIs h_fitting h_dawn h_likes h_walked h_came h_inn_creak h_inn_doorA h_inn_doorB h_inn_how h_inn_lies h_inn_isCold h_inn_falls h_inn_isFull h_inn_isTold h_inn_act h_inn_what h_inn_then h_inn_met h_inn_bed h_inn_dream h_inn_listens h_inn_name h_inn_nameSort h_inn_nameNumber v_thrown v_trouble v_where v_read v_taped v_size v_at v_sort v_place v_sign v_number v_fault v_wrongAt v_word v_marks v_notes v_inn_minutes v_inn_rooms v_inn_doors v_inn_things v_inn_dreams v_inn_sleepers v_inn_listeners v_inn_names) (z) (wX12_isSetting E h h_inn h_tape h_far h_from h_real h_other h_kept h_set h_w h_book h_noteSort h_whose h_what h_noteIs h_fitting h_dawn h_likes h_walked h_came h_inn_creak h_inn_doorA h_inn_doorB h_inn_how h_inn_lies h_inn_isCold h_inn_falls h_inn_isFull h_inn_isTold h_inn_act h_inn_what h_inn_then h_inn_met h_inn_bed h_inn_dream h_inn_listens h_inn_name h_inn_nameSort h_inn_nameNumber v_thrown v_trouble v_where v_read v_taped v_size v_at v_sort v_place v_sign v_number v_fault v_wrongAt v_word v_marks v_notes v_inn_minutes v_inn_rooms v_inn_doors v_inn_things v_inn_dreams v_inn_sleepers v_inn_listeners v_inn_names) := by
  intro sz
  refine ct_body (by decide) (Nat.le_of_ble_eq_true rfl) ?_
  intro p e s m args below meth c A ls hAe C hr hin hP hD hS hl
  have C : CX p s m args meth c cX12_isSetting RX12 2 E A := C
  have hl : lv_has ls 2 [(0, .ref h), (1, .int p0)] := hl
  have hx := C.1
  have hb := C.2.1
  rw [hAe]
  clear hAe
  obtain ⟨Q, hQ⟩ : ∃ Q, Q = MQ below (Qi E A (z) (wX12_isSetting E h h_inn h_tape h_far h_from h_real h_other h_kept h_set h_w h_book h_noteSort h_whose h_what h_noteIs h_fitting h_dawn h_likes h_walked h_came h_inn_creak h_inn_doorA h_inn_doorB h_inn_how h_inn_lies h_inn_isCold h_inn_falls h_inn_isFull h_inn_isTold h_inn_act h_inn_what h_inn_then h_inn_met h_inn_bed h_inn_dream h_inn_listens h_inn_name h_inn_nameSort h_inn_nameNumber v_thrown v_trouble v_where v_read v_taped v_size v_at v_sort v_place v_sign v_number v_fault v_wrongAt v_word v_marks v_notes v_inn_minutes v_inn_rooms v_inn_doors v_inn_things v_inn_dreams v_inn_sleepers v_inn_listeners v_inn_names)) args s 0 0 A := ⟨_, rfl⟩
  rw [← hQ]
  unfold fX12_isSetting at hf
  refine lv_aload_n (pc := 0) hx hb dX12_isSetting_0 rfl (lv_at hl 0 rfl) ?_
  refine r_get (pc := 1) C hP 0 rfl fl_X12_358 rfl dX12_isSetting_1 ?_
  refine jnK hf (fun j23 ej23 hf => ?_)
  have hj23 : j23 () = some z → AT p l e (rmOf 1 20) s m args below meth c E A Q 0 0 2 [] (wX12_isSetting E h h_inn h_tape h_far h_from h_real h_other h_kept h_set h_w h_book h_noteSort h_whose h_what h_noteIs h_fitting h_dawn h_likes h_walked h_came h_inn_creak h_inn_doorA h_inn_doorB h_inn_how h_inn_lies h_inn_isCold h_inn_falls h_inn_isFull h_inn_isTold h_inn_act h_inn_what h_inn_then h_inn_met h_inn_bed h_inn_dream h_inn_listens h_inn_name h_inn_nameSort h_inn_nameNumber v_thrown v_trouble v_where v_read v_taped v_size v_at v_sort v_place v_sign v_number v_fault v_wrongAt v_word v_marks v_notes v_inn_minutes v_inn_rooms v_inn_doors v_inn_things v_inn_dreams v_inn_sleepers v_inn_listeners v_inn_names) 23 [] := by
    intro  hf H locs ls hl hP hD hS
    rw [ej23] at hf
    replace hf := un0_s hf
    refine lv_iconst (pc := 23) (v := 0) hx hb dX12_isSetting_23 (by decide) ?_
    cases hf
    rw [hQ]
    exact r_zret C hr hP hD hS (Or.inl rfl) rfl dX12_isSetting_24
  clear ej23
  refine lv_ifnull (pc := 4) hx hb dX12_isSetting_4 ?_
  refine lv_iload_n (pc := 7) hx hb dX12_isSetting_7 rfl (lv_at hl 1 rfl) ?_
  refine lv_if_lt (pc := 8) (tgt := 23) hx hb dX12_isSetting_8 (by decide) (fun c_8 => ?_) (fun c_8 => ?_)
  · replace hf := it_t c_8 hf
    exact hj23  hf _ _ _ (lv_sub hl [] rfl) hP hD hS
  · replace hf := it_f c_8 hf
    refine lv_iload_n (pc := 11) hx hb dX12_isSetting_11 rfl (lv_at hl 1 rfl) ?_
    refine lv_aload_n (pc := 12) hx hb dX12_isSetting_12 rfl (lv_at hl 0 rfl) ?_
    obtain ⟨r_13, hc_13, hf⟩ := bd1 hf
    refine r_dalVi (pc := 13) (ws' := (wX12_isSetting E h h_inn h_tape h_far h_from h_real h_other h_kept h_set h_w h_book h_noteSort h_whose h_what h_noteIs h_fitting h_dawn h_likes h_walked h_came h_inn_creak h_inn_doorA h_inn_doorB h_inn_how h_inn_lies h_inn_isCold h_inn_falls h_inn_isFull h_inn_isTold h_inn_act h_inn_what h_inn_then h_inn_met h_inn_bed h_inn_dream h_inn_listens h_inn_name h_inn_nameSort h_inn_nameNumber v_thrown v_trouble v_where v_read v_taped v_size v_at v_sort v_place v_sign v_number v_fault v_wrongAt v_word v_marks v_notes v_inn_minutes v_inn_rooms v_inn_doors v_inn_things v_inn_dreams v_inn_sleepers v_inn_listeners v_inn_names)) (As := []) (rest := [.int p0]) C (ctX12_settings l E h h_inn h_tape h_far h_from h_real h_other h_kept h_set h_w h_book h_noteSort h_whose h_what h_noteIs h_fitting h_dawn h_likes h_walked h_came h_inn_creak h_inn_doorA h_inn_doorB h_inn_how h_inn_lies h_inn_isCold h_inn_falls h_inn_isFull h_inn_isTold h_inn_act h_inn_what h_inn_then h_inn_met h_inn_bed h_inn_dream h_inn_listens h_inn_name h_inn_nameSort h_inn_nameNumber v_thrown v_trouble v_where v_read v_taped v_size v_at v_sort v_place v_sign v_number v_fault v_wrongAt v_word v_marks v_notes v_inn_minutes v_inn_rooms v_inn_doors v_inn_things v_inn_dreams v_inn_sleepers v_inn_listeners v_inn_names N r_13 hc_13) ml_X12_385 ⟨Nat.le_of_ble_eq_true rfl, Nat.le_of_ble_eq_true rfl⟩ hP hD hS 0 rfl rfl rfl [0, 1] [2, 3] 2 rfl rfl rfl rfl rfl rfl rfl hl.1 rfl (Nat.le_of_ble_eq_true rfl) ⟨Nat.zero_le _, Nat.zero_le _⟩ dX12_isSetting_13 ?_
    clear hP hD hS; intro H locs hP hD hS
    refine lv_icmp_ge (pc := 16) (tgt := 23) hx hb dX12_isSetting_16 (by decide) (fun c_16 => ?_) (fun c_16 => ?_)
    · replace hf := it_t c_16 hf
      exact hj23  hf _ _ _ (lv_sub hl [] rfl) hP hD hS
    · replace hf := it_f c_16 hf
      refine lv_iconst (pc := 19) (v := 1) hx hb dX12_isSetting_19 (by decide) ?_
      refine lv_goto (pc := 20) (tgt := 24) hx hb dX12_isSetting_20 (by decide) ?_
      cases hf
      rw [hQ]
      exact r_zret C hr hP hD hS (Or.inr rfl) rfl dX12_isSetting_24
def wX12_isSetting0 (E : EN) (h h_tape h_far h_from h_real h_other h_kept h_set h_w h_book h_noteSort h_whose h_what h_noteIs h_fitting h_dawn h_likes h_walked h_came : Nat) (v_thrown : Int32) (v_trouble : Int32) (v_where : Int32) (v_read : Option Nat) (v_taped : Int32) (v_size : Int32) (v_at : Int32) (v_sort : Int32) (v_place : Int32) (v_sign : Int32) (v_number : Int32) (v_fault : Int32) (v_wrongAt : Int32) (v_word : Int64) (v_marks : Int32) (v_notes : Int32) : va_W := [(h, .inr (11, [.int v_thrown, .int v_trouble, .int v_where, .null, va_rf v_read, .ref h_tape, .int v_taped, .int v_size, .int v_at, .int v_sort, .int v_place, .int v_sign, .int v_number, .int v_fault, .int v_wrongAt, .long v_word, .ref h_far, .ref h_from, .ref h_real, .ref h_other, .ref h_kept, .ref h_set, .ref h_w, .int v_marks, .int v_notes, .ref h_book, .ref h_noteSort, .ref h_whose, .ref h_what, .ref h_noteIs, .ref h_fitting, .ref h_dawn, .ref h_likes, .ref h_walked, .ref h_came]))]
def fX12_isSetting0 (N : Nat) : Option Int32 := jn (un0 (some 0)) (fun j23 => j23 ())
set_option maxHeartbeats 4000000 in
set_option maxRecDepth 100000 in
theorem ctX12_isSetting0 (l : Launch) (E : EN) (h h_tape h_far h_from h_real h_other h_kept h_set h_w h_book h_noteSort h_whose h_what h_noteIs h_fitting h_dawn h_likes h_walked h_came : Nat) (v_thrown : Int32) (v_trouble : Int32) (v_where : Int32) (v_read : Option Nat) (v_taped : Int32) (v_size : Int32) (v_at : Int32) (v_sort : Int32) (v_place : Int32) (v_sign : Int32) (v_number : Int32) (v_fault : Int32) (v_wrongAt : Int32) (v_word : Int64) (v_marks : Int32) (v_notes : Int32) (N : Nat) (p0 : Int32) (z : Int32) (hf : fX12_isSetting0 N  = some z) : CTi l E yX12_isSetting cX12_isSetting 2 .boolean 0 0 [.ref h, .int p0] (wX12_isSetting0 E h h_tape h_far h_from h_real h_other h_kept h_set h_w h_book h_noteSort h_whose h_what h_noteIs h_fitting h_dawn h_likes h_walked h_came v_thrown v_trouble v_where v_read v_taped v_size v_at v_sort v_place v_sign v_number v_fault v_wrongAt v_word v_marks v_notes) (z) (wX12_isSetting0 E h h_tape h_far h_from h_real h_other h_kept h_set h_w h_book h_noteSort h_whose h_what h_noteIs h_fitting h_dawn h_likes h_walked h_came v_thrown v_trouble v_where v_read v_taped v_size v_at v_sort v_place v_sign v_number v_fault v_wrongAt v_word v_marks v_notes) := by
  intro sz
  refine ct_body (by decide) (Nat.le_of_ble_eq_true rfl) ?_
  intro p e s m args below meth c A ls hAe C hr hin hP hD hS hl
  have C : CX p s m args meth c cX12_isSetting RX12 2 E A := C
  have hl : lv_has ls 2 [(0, .ref h), (1, .int p0)] := hl
  have hx := C.1
  have hb := C.2.1
  rw [hAe]
  clear hAe
  obtain ⟨Q, hQ⟩ : ∃ Q, Q = MQ below (Qi E A (z) (wX12_isSetting0 E h h_tape h_far h_from h_real h_other h_kept h_set h_w h_book h_noteSort h_whose h_what h_noteIs h_fitting h_dawn h_likes h_walked h_came v_thrown v_trouble v_where v_read v_taped v_size v_at v_sort v_place v_sign v_number v_fault v_wrongAt v_word v_marks v_notes)) args s 0 0 A := ⟨_, rfl⟩
  rw [← hQ]
  unfold fX12_isSetting0 at hf
  refine lv_aload_n (pc := 0) hx hb dX12_isSetting_0 rfl (lv_at hl 0 rfl) ?_
  refine r_get (pc := 1) C hP 0 rfl fl_X12_358 rfl dX12_isSetting_1 ?_
  refine jnK hf (fun j23 ej23 hf => ?_)
  have hj23 : j23 () = some z → AT p l e (rmOf 0 0) s m args below meth c E A Q 0 0 2 [] (wX12_isSetting0 E h h_tape h_far h_from h_real h_other h_kept h_set h_w h_book h_noteSort h_whose h_what h_noteIs h_fitting h_dawn h_likes h_walked h_came v_thrown v_trouble v_where v_read v_taped v_size v_at v_sort v_place v_sign v_number v_fault v_wrongAt v_word v_marks v_notes) 23 [] := by
    intro  hf H locs ls hl hP hD hS
    rw [ej23] at hf
    replace hf := un0_s hf
    refine lv_iconst (pc := 23) (v := 0) hx hb dX12_isSetting_23 (by decide) ?_
    cases hf
    rw [hQ]
    exact r_zret C hr hP hD hS (Or.inl rfl) rfl dX12_isSetting_24
  clear ej23
  refine lv_ifnullN (pc := 4) (tgt := 23) hx hb dX12_isSetting_4 (by decide) ?_
  exact hj23  hf _ _ _ (lv_sub hl [] rfl) hP hD hS
def wX12_lockedDoors (E : EN) (h h_inn h_tape h_far h_from h_real h_other h_kept h_set h_w h_book h_noteSort h_whose h_what h_noteIs h_fitting h_dawn h_likes h_walked h_came h_inn_creak h_inn_doorA h_inn_doorB h_inn_how h_inn_lies h_inn_isCold h_inn_falls h_inn_isFull h_inn_isTold h_inn_act h_inn_what h_inn_then h_inn_met h_inn_bed h_inn_dream h_inn_listens h_inn_name h_inn_nameSort h_inn_nameNumber : Nat) (v_thrown : Int32) (v_trouble : Int32) (v_where : Int32) (v_read : Option Nat) (v_taped : Int32) (v_size : Int32) (v_at : Int32) (v_sort : Int32) (v_place : Int32) (v_sign : Int32) (v_number : Int32) (v_fault : Int32) (v_wrongAt : Int32) (v_word : Int64) (v_marks : Int32) (v_notes : Int32) (v_inn_minutes : Int32) (v_inn_rooms : Int32) (v_inn_doors : Int32) (v_inn_things : Int32) (v_inn_dreams : Int32) (v_inn_sleepers : Int32) (v_inn_listeners : Int32) (v_inn_names : Int32) (v_w : Nat → Int32) : va_W := [(h, .inr (11, [.int v_thrown, .int v_trouble, .int v_where, .ref h_inn, va_rf v_read, .ref h_tape, .int v_taped, .int v_size, .int v_at, .int v_sort, .int v_place, .int v_sign, .int v_number, .int v_fault, .int v_wrongAt, .long v_word, .ref h_far, .ref h_from, .ref h_real, .ref h_other, .ref h_kept, .ref h_set, .ref h_w, .int v_marks, .int v_notes, .ref h_book, .ref h_noteSort, .ref h_whose, .ref h_what, .ref h_noteIs, .ref h_fitting, .ref h_dawn, .ref h_likes, .ref h_walked, .ref h_came])), (h_inn, .inr (10, [.int v_inn_minutes, .int v_inn_rooms, .int v_inn_doors, .int v_inn_things, .int v_inn_dreams, .int v_inn_sleepers, .int v_inn_listeners, .int v_inn_names, .ref h_inn_creak, .ref h_inn_doorA, .ref h_inn_doorB, .ref h_inn_how, .ref h_inn_lies, .ref h_inn_isCold, .ref h_inn_falls, .ref h_inn_isFull, .ref h_inn_isTold, .ref h_inn_act, .ref h_inn_what, .ref h_inn_then, .ref h_inn_met, .ref h_inn_bed, .ref h_inn_dream, .ref h_inn_listens, .ref h_inn_name, .ref h_inn_nameSort, .ref h_inn_nameNumber])), (h_w, aI E 51 v_w)]
def BX12_lockedDoors_4 (v_inn_doors : Int32) (v_w : Nat → Int32) (rec4 : (Int32 × Int32) → Option Int32) : (Int32 × Int32) → Option Int32 := un2 fun (x4_1 : Int32) (x4_2 : Int32) => if v_inn_doors ≤ x4_2 then (some x4_1) else (gd (23 + x4_2) 51 (jn (un2 fun (x36_s0 : Int32) (x36_s1 : Int32) => rec4 (x36_s0 ||| x36_s1, x4_2 + 1)) (fun j36 => if (v_w (23 + x4_2).toNatClampNeg) = 2 then (j36 (x4_1, 1 <<< (x4_2 &&& 31))) else (j36 (x4_1, 0)))))
def fX12_lockedDoors (N : Nat) (v_inn_doors : Int32) (v_w : Nat → Int32) : Option Int32 := lp (BX12_lockedDoors_4 v_inn_doors v_w) N (0, 0)
set_option maxHeartbeats 4000000 in
set_option maxRecDepth 100000 in
theorem ctX12_lockedDoors (l : Launch) (E : EN) (h h_inn h_tape h_far h_from h_real h_other h_kept h_set h_w h_book h_noteSort h_whose h_what h_noteIs h_fitting h_dawn h_likes h_walked h_came h_inn_creak h_inn_doorA h_inn_doorB h_inn_how h_inn_lies h_inn_isCold h_inn_falls h_inn_isFull h_inn_isTold h_inn_act h_inn_what h_inn_then h_inn_met h_inn_bed h_inn_dream h_inn_listens h_inn_name h_inn_nameSort h_inn_nameNumber : Nat) (v_thrown : Int32) (v_trouble : Int32) (v_where : Int32) (v_read : Option Nat) (v_taped : Int32) (v_size : Int32) (v_at : Int32) (v_sort : Int32) (v_place : Int32) (v_sign : Int32) (v_number : Int32) (v_fault : Int32) (v_wrongAt : Int32) (v_word : Int64) (v_marks : Int32) (v_notes : Int32) (v_inn_minutes : Int32) (v_inn_rooms : Int32) (v_inn_doors : Int32) (v_inn_things : Int32) (v_inn_dreams : Int32) (v_inn_sleepers : Int32) (v_inn_listeners : Int32) (v_inn_names : Int32) (v_w : Nat → Int32) (N : Nat) (z : Int32) (hf : fX12_lockedDoors N v_inn_doors v_w = some z) : CTi l E yX12_lockedDoors cX12_lockedDoors 3 .int 0 0 [.ref h] (wX12_lockedDoors E h h_inn h_tape h_far h_from h_real h_other h_kept h_set h_w h_book h_noteSort h_whose h_what h_noteIs h_fitting h_dawn h_likes h_walked h_came h_inn_creak h_inn_doorA h_inn_doorB h_inn_how h_inn_lies h_inn_isCold h_inn_falls h_inn_isFull h_inn_isTold h_inn_act h_inn_what h_inn_then h_inn_met h_inn_bed h_inn_dream h_inn_listens h_inn_name h_inn_nameSort h_inn_nameNumber v_thrown v_trouble v_where v_read v_taped v_size v_at v_sort v_place v_sign v_number v_fault v_wrongAt v_word v_marks v_notes v_inn_minutes v_inn_rooms v_inn_doors v_inn_things v_inn_dreams v_inn_sleepers v_inn_listeners v_inn_names v_w) (z) (wX12_lockedDoors E h h_inn h_tape h_far h_from h_real h_other h_kept h_set h_w h_book h_noteSort h_whose h_what h_noteIs h_fitting h_dawn h_likes h_walked h_came h_inn_creak h_inn_doorA h_inn_doorB h_inn_how h_inn_lies h_inn_isCold h_inn_falls h_inn_isFull h_inn_isTold h_inn_act h_inn_what h_inn_then h_inn_met h_inn_bed h_inn_dream h_inn_listens h_inn_name h_inn_nameSort h_inn_nameNumber v_thrown v_trouble v_where v_read v_taped v_size v_at v_sort v_place v_sign v_number v_fault v_wrongAt v_word v_marks v_notes v_inn_minutes v_inn_rooms v_inn_doors v_inn_things v_inn_dreams v_inn_sleepers v_inn_listeners v_inn_names v_w) := by
  intro sz
  refine ct_body (by decide) (Nat.le_of_ble_eq_true rfl) ?_
  intro p e s m args below meth c A ls hAe C hr hin hP hD hS hl
  have C : CX p s m args meth c cX12_lockedDoors RX12 3 E A := C
  have hl : lv_has ls 3 [(0, .ref h)] := hl
  have hx := C.1
  have hb := C.2.1
  rw [hAe]
  clear hAe
  obtain ⟨Q, hQ⟩ : ∃ Q, Q = MQ below (Qi E A (z) (wX12_lockedDoors E h h_inn h_tape h_far h_from h_real h_other h_kept h_set h_w h_book h_noteSort h_whose h_what h_noteIs h_fitting h_dawn h_likes h_walked h_came h_inn_creak h_inn_doorA h_inn_doorB h_inn_how h_inn_lies h_inn_isCold h_inn_falls h_inn_isFull h_inn_isTold h_inn_act h_inn_what h_inn_then h_inn_met h_inn_bed h_inn_dream h_inn_listens h_inn_name h_inn_nameSort h_inn_nameNumber v_thrown v_trouble v_where v_read v_taped v_size v_at v_sort v_place v_sign v_number v_fault v_wrongAt v_word v_marks v_notes v_inn_minutes v_inn_rooms v_inn_doors v_inn_things v_inn_dreams v_inn_sleepers v_inn_listeners v_inn_names v_w)) args s 0 0 A := ⟨_, rfl⟩
  rw [← hQ]
  unfold fX12_lockedDoors at hf
  refine lv_iconst (pc := 0) (v := 0) hx hb dX12_lockedDoors_0 (by decide) ?_
  refine lv_istore_n (pc := 1) (lv' := [(1, .int 0), (0, .ref h)]) hx hb dX12_lockedDoors_1 rfl hl (by decide) rfl (fun ls hl => ?_)
  refine lv_iconst (pc := 2) (v := 0) hx hb dX12_lockedDoors_2 (by decide) ?_
  refine lv_istore_n (pc := 3) (lv' := [(2, .int 0), (1, .int 0), (0, .ref h)]) hx hb dX12_lockedDoors_3 rfl hl (by decide) rfl (fun ls hl => ?_)
  have key4 : ∀ (n : Nat) (x4_1 : Int32) (x4_2 : Int32) , lp (BX12_lockedDoors_4 v_inn_doors v_w) n (x4_1, x4_2) = some z → AT p l e (rmOf 0 0) s m args below meth c E A Q 0 0 3 [(0, .ref h), (1, .int x4_1), (2, .int x4_2)] (wX12_lockedDoors E h h_inn h_tape h_far h_from h_real h_other h_kept h_set h_w h_book h_noteSort h_whose h_what h_noteIs h_fitting h_dawn h_likes h_walked h_came h_inn_creak h_inn_doorA h_inn_doorB h_inn_how h_inn_lies h_inn_isCold h_inn_falls h_inn_isFull h_inn_isTold h_inn_act h_inn_what h_inn_then h_inn_met h_inn_bed h_inn_dream h_inn_listens h_inn_name h_inn_nameSort h_inn_nameNumber v_thrown v_trouble v_where v_read v_taped v_size v_at v_sort v_place v_sign v_number v_fault v_wrongAt v_word v_marks v_notes v_inn_minutes v_inn_rooms v_inn_doors v_inn_things v_inn_dreams v_inn_sleepers v_inn_listeners v_inn_names v_w) 4 [] := by
    intro n
    induction n with
    | zero => intro x4_1 x4_2 hf; exact (lp_0 hf).elim
    | succ n ih4 =>
      intro x4_1 x4_2 hf H locs ls hl hP hD hS
      replace hf := lp_s hf
      generalize lp (BX12_lockedDoors_4 v_inn_doors v_w) n = rec4 at ih4 hf
      unfold BX12_lockedDoors_4 at hf
      replace hf := un2_s hf
      refine lv_iload_n (pc := 4) hx hb dX12_lockedDoors_4 rfl (lv_at hl 2 rfl) ?_
      refine lv_aload_n (pc := 5) hx hb dX12_lockedDoors_5 rfl (lv_at hl 0 rfl) ?_
      refine r_get (pc := 6) C hP 0 rfl fl_X12_358 rfl dX12_lockedDoors_6 ?_
      refine r_get (pc := 9) C hP 1 rfl fl_X12_292 rfl dX12_lockedDoors_9 ?_
      refine lv_icmp_ge (pc := 12) (tgt := 44) hx hb dX12_lockedDoors_12 (by decide) (fun c_12 => ?_) (fun c_12 => ?_)
      · replace hf := it_t c_12 hf
        refine lv_iload_n (pc := 44) hx hb dX12_lockedDoors_44 rfl (lv_at hl 1 rfl) ?_
        cases hf
        rw [hQ]
        exact r_iret C hr hP hD hS rfl dX12_lockedDoors_45
      · replace hf := it_f c_12 hf
        refine lv_iload_n (pc := 15) hx hb dX12_lockedDoors_15 rfl (lv_at hl 1 rfl) ?_
        refine lv_aload_n (pc := 16) hx hb dX12_lockedDoors_16 rfl (lv_at hl 0 rfl) ?_
        refine r_get (pc := 17) C hP 0 rfl fl_X12_36 rfl dX12_lockedDoors_17 ?_
        refine lv_bipush (pc := 20) (v := 23) hx hb dX12_lockedDoors_20 (by decide) ?_
        refine lv_iload_n (pc := 22) hx hb dX12_lockedDoors_22 rfl (lv_at hl 2 rfl) ?_
        refine lv_iadd (pc := 23) hx hb dX12_lockedDoors_23 ?_
        obtain ⟨hi_24, hf⟩ := gd_s hf
        refine r_iald (pc := 24) C hP 2 rfl hi_24 dX12_lockedDoors_24 ?_
        refine lv_iconst (pc := 25) (v := 2) hx hb dX12_lockedDoors_25 (by decide) ?_
        refine jnK hf (fun j36 ej36 hf => ?_)
        have hj36 : ∀ (x36_s0 : Int32) (x36_s1 : Int32) , j36 (x36_s0, x36_s1) = some z → AT p l e (rmOf 0 0) s m args below meth c E A Q 0 0 3 [(0, .ref h), (2, .int x4_2)] (wX12_lockedDoors E h h_inn h_tape h_far h_from h_real h_other h_kept h_set h_w h_book h_noteSort h_whose h_what h_noteIs h_fitting h_dawn h_likes h_walked h_came h_inn_creak h_inn_doorA h_inn_doorB h_inn_how h_inn_lies h_inn_isCold h_inn_falls h_inn_isFull h_inn_isTold h_inn_act h_inn_what h_inn_then h_inn_met h_inn_bed h_inn_dream h_inn_listens h_inn_name h_inn_nameSort h_inn_nameNumber v_thrown v_trouble v_where v_read v_taped v_size v_at v_sort v_place v_sign v_number v_fault v_wrongAt v_word v_marks v_notes v_inn_minutes v_inn_rooms v_inn_doors v_inn_things v_inn_dreams v_inn_sleepers v_inn_listeners v_inn_names v_w) 36 [.int x36_s1, .int x36_s0] := by
          intro x36_s0 x36_s1 hf H locs ls hl hP hD hS
          rw [ej36] at hf
          replace hf := un2_s hf
          refine lv_ior (pc := 36) hx hb dX12_lockedDoors_36 ?_
          refine lv_istore_n (pc := 37) (lv' := [(1, .int (x36_s0 ||| x36_s1)), (0, .ref h), (2, .int x4_2)]) hx hb dX12_lockedDoors_37 rfl hl (by decide) rfl (fun ls hl => ?_)
          refine lv_iinc (pc := 38) (v := x4_2 + 1) (lv' := [(2, .int (x4_2 + 1)), (1, .int (x36_s0 ||| x36_s1)), (0, .ref h)]) hx hb dX12_lockedDoors_38 hl (k := 2) rfl rfl (by decide) rfl (fun ls hl => ?_)
          refine lv_goto (pc := 41) (tgt := 4) hx hb dX12_lockedDoors_41 (by decide) ?_
          exact ih4 (x36_s0 ||| x36_s1) (x4_2 + 1) hf _ _ _ (lv_sub hl [2, 1, 0] rfl) hP hD hS
        clear ej36
        refine lv_icmp_ne (pc := 26) (tgt := 35) hx hb dX12_lockedDoors_26 (by decide) (fun c_26 => ?_) (fun c_26 => ?_)
        · replace hf := it_f c_26 hf
          refine lv_iconst (pc := 35) (v := 0) hx hb dX12_lockedDoors_35 (by decide) ?_
          exact hj36 x4_1 0 hf _ _ _ (lv_sub hl [0, 2] rfl) hP hD hS
        · replace hf := it_t c_26 hf
          refine lv_iconst (pc := 29) (v := 1) hx hb dX12_lockedDoors_29 (by decide) ?_
          refine lv_iload_n (pc := 30) hx hb dX12_lockedDoors_30 rfl (lv_at hl 2 rfl) ?_
          refine lv_ishl (pc := 31) hx hb dX12_lockedDoors_31 ?_
          refine lv_goto (pc := 32) (tgt := 36) hx hb dX12_lockedDoors_32 (by decide) ?_
          exact hj36 x4_1 (1 <<< (x4_2 &&& 31)) hf _ _ _ (lv_sub hl [0, 2] rfl) hP hD hS
  exact key4 _ 0 0 hf _ _ _ (lv_sub hl [2, 1, 0] rfl) hP hD hS
def wX12_stateOf (E : EN) (h h_tape h_far h_from h_real h_other h_kept h_set h_w h_book h_noteSort h_whose h_what h_noteIs h_fitting h_dawn h_likes h_walked h_came : Nat) (v_thrown : Int32) (v_trouble : Int32) (v_where : Int32) (v_inn : Option Nat) (v_read : Option Nat) (v_taped : Int32) (v_size : Int32) (v_at : Int32) (v_sort : Int32) (v_place : Int32) (v_sign : Int32) (v_number : Int32) (v_fault : Int32) (v_wrongAt : Int32) (v_word : Int64) (v_marks : Int32) (v_notes : Int32) (v_w : Nat → Int32) : va_W := [(h, .inr (11, [.int v_thrown, .int v_trouble, .int v_where, va_rf v_inn, va_rf v_read, .ref h_tape, .int v_taped, .int v_size, .int v_at, .int v_sort, .int v_place, .int v_sign, .int v_number, .int v_fault, .int v_wrongAt, .long v_word, .ref h_far, .ref h_from, .ref h_real, .ref h_other, .ref h_kept, .ref h_set, .ref h_w, .int v_marks, .int v_notes, .ref h_book, .ref h_noteSort, .ref h_whose, .ref h_what, .ref h_noteIs, .ref h_fitting, .ref h_dawn, .ref h_likes, .ref h_walked, .ref h_came])), (h_w, aI E 51 v_w)]
def fX12_stateOf (N : Nat) (p0 : Int32) (v_w : Nat → Int32) : Option Int32 := gd (12 + p0) 51 (gd (3 + p0) 51 (some ((4 * (v_w (12 + p0).toNatClampNeg)) + (v_w (3 + p0).toNatClampNeg))))
set_option maxHeartbeats 4000000 in
set_option maxRecDepth 100000 in
theorem ctX12_stateOf (l : Launch) (E : EN) (h h_tape h_far h_from h_real h_other h_kept h_set h_w h_book h_noteSort h_whose h_what h_noteIs h_fitting h_dawn h_likes h_walked h_came : Nat) (v_thrown : Int32) (v_trouble : Int32) (v_where : Int32) (v_inn : Option Nat) (v_read : Option Nat) (v_taped : Int32) (v_size : Int32) (v_at : Int32) (v_sort : Int32) (v_place : Int32) (v_sign : Int32) (v_number : Int32) (v_fault : Int32) (v_wrongAt : Int32) (v_word : Int64) (v_marks : Int32) (v_notes : Int32) (v_w : Nat → Int32) (N : Nat) (p0 : Int32) (z : Int32) (hf : fX12_stateOf N p0 v_w = some z) : CTi l E yX12_stateOf cX12_stateOf 2 .int 0 0 [.ref h, .int p0] (wX12_stateOf E h h_tape h_far h_from h_real h_other h_kept h_set h_w h_book h_noteSort h_whose h_what h_noteIs h_fitting h_dawn h_likes h_walked h_came v_thrown v_trouble v_where v_inn v_read v_taped v_size v_at v_sort v_place v_sign v_number v_fault v_wrongAt v_word v_marks v_notes v_w) (z) (wX12_stateOf E h h_tape h_far h_from h_real h_other h_kept h_set h_w h_book h_noteSort h_whose h_what h_noteIs h_fitting h_dawn h_likes h_walked h_came v_thrown v_trouble v_where v_inn v_read v_taped v_size v_at v_sort v_place v_sign v_number v_fault v_wrongAt v_word v_marks v_notes v_w) := by
  intro sz
  refine ct_body (by decide) (Nat.le_of_ble_eq_true rfl) ?_
  intro p e s m args below meth c A ls hAe C hr hin hP hD hS hl
  have C : CX p s m args meth c cX12_stateOf RX12 2 E A := C
  have hl : lv_has ls 2 [(0, .ref h), (1, .int p0)] := hl
  have hx := C.1
  have hb := C.2.1
  rw [hAe]
  clear hAe
  obtain ⟨Q, hQ⟩ : ∃ Q, Q = MQ below (Qi E A (z) (wX12_stateOf E h h_tape h_far h_from h_real h_other h_kept h_set h_w h_book h_noteSort h_whose h_what h_noteIs h_fitting h_dawn h_likes h_walked h_came v_thrown v_trouble v_where v_inn v_read v_taped v_size v_at v_sort v_place v_sign v_number v_fault v_wrongAt v_word v_marks v_notes v_w)) args s 0 0 A := ⟨_, rfl⟩
  rw [← hQ]
  unfold fX12_stateOf at hf
  refine lv_iconst (pc := 0) (v := 4) hx hb dX12_stateOf_0 (by decide) ?_
  refine lv_aload_n (pc := 1) hx hb dX12_stateOf_1 rfl (lv_at hl 0 rfl) ?_
  refine r_get (pc := 2) C hP 0 rfl fl_X12_36 rfl dX12_stateOf_2 ?_
  refine lv_bipush (pc := 5) (v := 12) hx hb dX12_stateOf_5 (by decide) ?_
  refine lv_iload_n (pc := 7) hx hb dX12_stateOf_7 rfl (lv_at hl 1 rfl) ?_
  refine lv_iadd (pc := 8) hx hb dX12_stateOf_8 ?_
  obtain ⟨hi_9, hf⟩ := gd_s hf
  refine r_iald (pc := 9) C hP 1 rfl hi_9 dX12_stateOf_9 ?_
  refine lv_imul (pc := 10) hx hb dX12_stateOf_10 ?_
  refine lv_aload_n (pc := 11) hx hb dX12_stateOf_11 rfl (lv_at hl 0 rfl) ?_
  refine r_get (pc := 12) C hP 0 rfl fl_X12_36 rfl dX12_stateOf_12 ?_
  refine lv_iconst (pc := 15) (v := 3) hx hb dX12_stateOf_15 (by decide) ?_
  refine lv_iload_n (pc := 16) hx hb dX12_stateOf_16 rfl (lv_at hl 1 rfl) ?_
  refine lv_iadd (pc := 17) hx hb dX12_stateOf_17 ?_
  obtain ⟨hi_18, hf⟩ := gd_s hf
  refine r_iald (pc := 18) C hP 1 rfl hi_18 dX12_stateOf_18 ?_
  refine lv_iadd (pc := 19) hx hb dX12_stateOf_19 ?_
  cases hf
  rw [hQ]
  exact r_iret C hr hP hD hS rfl dX12_stateOf_20
def wX12_meets (E : EN) (h h_inn h_tape h_far h_from h_real h_other h_kept h_set h_w h_book h_noteSort h_whose h_what h_noteIs h_fitting h_dawn h_likes h_walked h_came h_inn_creak h_inn_doorA h_inn_doorB h_inn_how h_inn_lies h_inn_isCold h_inn_falls h_inn_isFull h_inn_isTold h_inn_act h_inn_what h_inn_then h_inn_met h_inn_bed h_inn_dream h_inn_listens h_inn_name h_inn_nameSort h_inn_nameNumber : Nat) (v_thrown : Int32) (v_trouble : Int32) (v_where : Int32) (v_read : Option Nat) (v_taped : Int32) (v_size : Int32) (v_at : Int32) (v_sort : Int32) (v_place : Int32) (v_sign : Int32) (v_number : Int32) (v_fault : Int32) (v_wrongAt : Int32) (v_word : Int64) (v_marks : Int32) (v_notes : Int32) (v_w : Nat → Int32) (v_inn_minutes : Int32) (v_inn_rooms : Int32) (v_inn_doors : Int32) (v_inn_things : Int32) (v_inn_dreams : Int32) (v_inn_sleepers : Int32) (v_inn_listeners : Int32) (v_inn_names : Int32) (v_inn_isTold : Nat → Int32) (v_inn_met : Nat → Int32) : va_W := [(h, .inr (11, [.int v_thrown, .int v_trouble, .int v_where, .ref h_inn, va_rf v_read, .ref h_tape, .int v_taped, .int v_size, .int v_at, .int v_sort, .int v_place, .int v_sign, .int v_number, .int v_fault, .int v_wrongAt, .long v_word, .ref h_far, .ref h_from, .ref h_real, .ref h_other, .ref h_kept, .ref h_set, .ref h_w, .int v_marks, .int v_notes, .ref h_book, .ref h_noteSort, .ref h_whose, .ref h_what, .ref h_noteIs, .ref h_fitting, .ref h_dawn, .ref h_likes, .ref h_walked, .ref h_came])), (h_w, aI E 51 v_w), (h_inn, .inr (10, [.int v_inn_minutes, .int v_inn_rooms, .int v_inn_doors, .int v_inn_things, .int v_inn_dreams, .int v_inn_sleepers, .int v_inn_listeners, .int v_inn_names, .ref h_inn_creak, .ref h_inn_doorA, .ref h_inn_doorB, .ref h_inn_how, .ref h_inn_lies, .ref h_inn_isCold, .ref h_inn_falls, .ref h_inn_isFull, .ref h_inn_isTold, .ref h_inn_act, .ref h_inn_what, .ref h_inn_then, .ref h_inn_met, .ref h_inn_bed, .ref h_inn_dream, .ref h_inn_listens, .ref h_inn_name, .ref h_inn_nameSort, .ref h_inn_nameNumber])), (h_inn_isTold, aZ E 16 v_inn_isTold), (h_inn_met, aI E 16 v_inn_met)]
def fX12_meets (N : Nat) (p0 : Int32) (v_w : Nat → Int32) (v_inn_isTold : Nat → Int32) (v_inn_met : Nat → Int32) : Option (Nat → Int32) := (fX12_stateOf N p0 v_w).bind (un1 fun (r_2 : Int32) => gd r_2 16 (if (v_inn_isTold r_2.toNatClampNeg) = 0 then (some v_w) else (gd r_2 16 (if (v_inn_met r_2.toNatClampNeg) = (-2) then (some v_w) else (gd r_2 16 (gd (3 + p0) 51 (some (upd v_w (3 + p0).toNatClampNeg (v_inn_met r_2.toNatClampNeg)))))))))
set_option maxHeartbeats 4000000 in
set_option maxRecDepth 100000 in
theorem ctX12_meets (l : Launch) (E : EN) (h h_inn h_tape h_far h_from h_real h_other h_kept h_set h_w h_book h_noteSort h_whose h_what h_noteIs h_fitting h_dawn h_likes h_walked h_came h_inn_creak h_inn_doorA h_inn_doorB h_inn_how h_inn_lies h_inn_isCold h_inn_falls h_inn_isFull h_inn_isTold h_inn_act h_inn_what h_inn_then h_inn_met h_inn_bed h_inn_dream h_inn_listens h_inn_name h_inn_nameSort h_inn_nameNumber : Nat) (v_thrown : Int32) (v_trouble : Int32) (v_where : Int32) (v_read : Option Nat) (v_taped : Int32) (v_size : Int32) (v_at : Int32) (v_sort : Int32) (v_place : Int32) (v_sign : Int32) (v_number : Int32) (v_fault : Int32) (v_wrongAt : Int32) (v_word : Int64) (v_marks : Int32) (v_notes : Int32) (v_w : Nat → Int32) (v_inn_minutes : Int32) (v_inn_rooms : Int32) (v_inn_doors : Int32) (v_inn_things : Int32) (v_inn_dreams : Int32) (v_inn_sleepers : Int32) (v_inn_listeners : Int32) (v_inn_names : Int32) (v_inn_isTold : Nat → Int32) (v_inn_met : Nat → Int32) (N : Nat) (p0 : Int32) (z : Nat → Int32) (hf : fX12_meets N p0 v_w v_inn_isTold v_inn_met = some z) : CTv l E yX12_meets cX12_meets 3 1 21 [.ref h, .int p0] (wX12_meets E h h_inn h_tape h_far h_from h_real h_other h_kept h_set h_w h_book h_noteSort h_whose h_what h_noteIs h_fitting h_dawn h_likes h_walked h_came h_inn_creak h_inn_doorA h_inn_doorB h_inn_how h_inn_lies h_inn_isCold h_inn_falls h_inn_isFull h_inn_isTold h_inn_act h_inn_what h_inn_then h_inn_met h_inn_bed h_inn_dream h_inn_listens h_inn_name h_inn_nameSort h_inn_nameNumber v_thrown v_trouble v_where v_read v_taped v_size v_at v_sort v_place v_sign v_number v_fault v_wrongAt v_word v_marks v_notes v_w v_inn_minutes v_inn_rooms v_inn_doors v_inn_things v_inn_dreams v_inn_sleepers v_inn_listeners v_inn_names v_inn_isTold v_inn_met) (wX12_meets E h h_inn h_tape h_far h_from h_real h_other h_kept h_set h_w h_book h_noteSort h_whose h_what h_noteIs h_fitting h_dawn h_likes h_walked h_came h_inn_creak h_inn_doorA h_inn_doorB h_inn_how h_inn_lies h_inn_isCold h_inn_falls h_inn_isFull h_inn_isTold h_inn_act h_inn_what h_inn_then h_inn_met h_inn_bed h_inn_dream h_inn_listens h_inn_name h_inn_nameSort h_inn_nameNumber v_thrown v_trouble v_where v_read v_taped v_size v_at v_sort v_place v_sign v_number v_fault v_wrongAt v_word v_marks v_notes z v_inn_minutes v_inn_rooms v_inn_doors v_inn_things v_inn_dreams v_inn_sleepers v_inn_listeners v_inn_names v_inn_isTold v_inn_met) := by
  intro sz
  refine ct_body (by decide) (Nat.le_of_ble_eq_true rfl) ?_
  intro p e s m args below meth c A ls hAe C hr hin hP hD hS hl
  have C : CX p s m args meth c cX12_meets RX12 3 E A := C
  have hl : lv_has ls 3 [(0, .ref h), (1, .int p0)] := hl
  have hx := C.1
  have hb := C.2.1
  rw [hAe]
  clear hAe
  obtain ⟨Q, hQ⟩ : ∃ Q, Q = MQ below (Qv E A (wX12_meets E h h_inn h_tape h_far h_from h_real h_other h_kept h_set h_w h_book h_noteSort h_whose h_what h_noteIs h_fitting h_dawn h_likes h_walked h_came h_inn_creak h_inn_doorA h_inn_doorB h_inn_how h_inn_lies h_inn_isCold h_inn_falls h_inn_isFull h_inn_isTold h_inn_act h_inn_what h_inn_then h_inn_met h_inn_bed h_inn_dream h_inn_listens h_inn_name h_inn_nameSort h_inn_nameNumber v_thrown v_trouble v_where v_read v_taped v_size v_at v_sort v_place v_sign v_number v_fault v_wrongAt v_word v_marks v_notes z v_inn_minutes v_inn_rooms v_inn_doors v_inn_things v_inn_dreams v_inn_sleepers v_inn_listeners v_inn_names v_inn_isTold v_inn_met)) args s 0 0 A := ⟨_, rfl⟩
  rw [← hQ]
  unfold fX12_meets at hf
  refine lv_aload_n (pc := 0) hx hb dX12_meets_0 rfl (lv_at hl 0 rfl) ?_
  refine lv_iload_n (pc := 1) hx hb dX12_meets_1 rfl (lv_at hl 1 rfl) ?_
  obtain ⟨r_2, hc_2, hf⟩ := bd1 hf
  refine r_dalVi (pc := 2) (ws' := (wX12_meets E h h_inn h_tape h_far h_from h_real h_other h_kept h_set h_w h_book h_noteSort h_whose h_what h_noteIs h_fitting h_dawn h_likes h_walked h_came h_inn_creak h_inn_doorA h_inn_doorB h_inn_how h_inn_lies h_inn_isCold h_inn_falls h_inn_isFull h_inn_isTold h_inn_act h_inn_what h_inn_then h_inn_met h_inn_bed h_inn_dream h_inn_listens h_inn_name h_inn_nameSort h_inn_nameNumber v_thrown v_trouble v_where v_read v_taped v_size v_at v_sort v_place v_sign v_number v_fault v_wrongAt v_word v_marks v_notes v_w v_inn_minutes v_inn_rooms v_inn_doors v_inn_things v_inn_dreams v_inn_sleepers v_inn_listeners v_inn_names v_inn_isTold v_inn_met)) (As := [.int p0]) (rest := []) C (ctX12_stateOf l E h h_tape h_far h_from h_real h_other h_kept h_set h_w h_book h_noteSort h_whose h_what h_noteIs h_fitting h_dawn h_likes h_walked h_came v_thrown v_trouble v_where (some h_inn) v_read v_taped v_size v_at v_sort v_place v_sign v_number v_fault v_wrongAt v_word v_marks v_notes v_w N p0 r_2 hc_2) ml_X12_388 ⟨Nat.le_of_ble_eq_true rfl, Nat.le_of_ble_eq_true rfl⟩ hP hD hS 0 rfl rfl rfl [0, 1] [5, 6, 2, 3, 4] 5 rfl rfl rfl rfl rfl rfl rfl hl.1 rfl (Nat.le_of_ble_eq_true rfl) ⟨Nat.zero_le _, Nat.zero_le _⟩ dX12_meets_2 ?_
  clear hP hD hS; intro H locs hP hD hS
  refine lv_istore_n (pc := 5) (lv' := [(2, .int r_2), (0, .ref h), (1, .int p0)]) hx hb dX12_meets_5 rfl hl (by decide) rfl (fun ls hl => ?_)
  refine lv_aload_n (pc := 6) hx hb dX12_meets_6 rfl (lv_at hl 1 rfl) ?_
  refine r_get (pc := 7) C hP 0 rfl fl_X12_358 rfl dX12_meets_7 ?_
  refine r_get (pc := 10) C hP 2 rfl fl_X12_328 rfl dX12_meets_10 ?_
  refine lv_iload_n (pc := 13) hx hb dX12_meets_13 rfl (lv_at hl 0 rfl) ?_
  obtain ⟨hi_14, hf⟩ := gd_s hf
  refine r_zald (pc := 14) C hP 3 rfl hi_14 dX12_meets_14 ?_
  refine lv_if_eq (pc := 15) (tgt := 49) hx hb dX12_meets_15 (by decide) (fun c_15 => ?_) (fun c_15 => ?_)
  · replace hf := it_t c_15 hf
    cases hf
    rw [hQ]
    exact r_vret C hr hP hD hS dX12_meets_49
  · replace hf := it_f c_15 hf
    refine lv_aload_n (pc := 18) hx hb dX12_meets_18 rfl (lv_at hl 1 rfl) ?_
    refine r_get (pc := 19) C hP 0 rfl fl_X12_358 rfl dX12_meets_19 ?_
    refine r_get (pc := 22) C hP 2 rfl fl_X12_337 rfl dX12_meets_22 ?_
    refine lv_iload_n (pc := 25) hx hb dX12_meets_25 rfl (lv_at hl 0 rfl) ?_
    obtain ⟨hi_26, hf⟩ := gd_s hf
    refine r_iald (pc := 26) C hP 4 rfl hi_26 dX12_meets_26 ?_
    refine lv_bipush (pc := 27) (v := (-2)) hx hb dX12_meets_27 (by decide) ?_
    refine lv_icmp_eq (pc := 29) (tgt := 49) hx hb dX12_meets_29 (by decide) (fun c_29 => ?_) (fun c_29 => ?_)
    · replace hf := it_t c_29 hf
      cases hf
      rw [hQ]
      exact r_vret C hr hP hD hS dX12_meets_49
    · replace hf := it_f c_29 hf
      refine lv_aload_n (pc := 32) hx hb dX12_meets_32 rfl (lv_at hl 1 rfl) ?_
      refine r_get (pc := 33) C hP 0 rfl fl_X12_36 rfl dX12_meets_33 ?_
      refine lv_iconst (pc := 36) (v := 3) hx hb dX12_meets_36 (by decide) ?_
      refine lv_iload_n (pc := 37) hx hb dX12_meets_37 rfl (lv_at hl 2 rfl) ?_
      refine lv_iadd (pc := 38) hx hb dX12_meets_38 ?_
      refine lv_aload_n (pc := 39) hx hb dX12_meets_39 rfl (lv_at hl 1 rfl) ?_
      refine r_get (pc := 40) C hP 0 rfl fl_X12_358 rfl dX12_meets_40 ?_
      refine r_get (pc := 43) C hP 2 rfl fl_X12_337 rfl dX12_meets_43 ?_
      refine lv_iload_n (pc := 46) hx hb dX12_meets_46 rfl (lv_at hl 0 rfl) ?_
      obtain ⟨hi_47, hf⟩ := gd_s hf
      refine r_iald (pc := 47) C hP 4 rfl hi_47 dX12_meets_47 ?_
      obtain ⟨hi_48, hf⟩ := gd_s hf
      refine r_iast (pc := 48) (ws' := (wX12_meets E h h_inn h_tape h_far h_from h_real h_other h_kept h_set h_w h_book h_noteSort h_whose h_what h_noteIs h_fitting h_dawn h_likes h_walked h_came h_inn_creak h_inn_doorA h_inn_doorB h_inn_how h_inn_lies h_inn_isCold h_inn_falls h_inn_isFull h_inn_isTold h_inn_act h_inn_what h_inn_then h_inn_met h_inn_bed h_inn_dream h_inn_listens h_inn_name h_inn_nameSort h_inn_nameNumber v_thrown v_trouble v_where v_read v_taped v_size v_at v_sort v_place v_sign v_number v_fault v_wrongAt v_word v_marks v_notes (upd v_w (3 + p0).toNatClampNeg (v_inn_met r_2.toNatClampNeg)) v_inn_minutes v_inn_rooms v_inn_doors v_inn_things v_inn_dreams v_inn_sleepers v_inn_listeners v_inn_names v_inn_isTold v_inn_met)) C hP hD hS 1 rfl hi_48 rfl dX12_meets_48 ?_
      clear hP hD hS; intro H locs hP hD hS
      cases hf
      rw [hQ]
      exact r_vret C hr hP hD hS dX12_meets_49
def wX12_creaksIn (E : EN) (h h_inn h_tape h_far h_from h_real h_other h_kept h_set h_w h_book h_noteSort h_whose h_what h_noteIs h_fitting h_dawn h_likes h_walked h_came h_inn_creak h_inn_doorA h_inn_doorB h_inn_how h_inn_lies h_inn_isCold h_inn_falls h_inn_isFull h_inn_isTold h_inn_act h_inn_what h_inn_then h_inn_met h_inn_bed h_inn_dream h_inn_listens h_inn_name h_inn_nameSort h_inn_nameNumber : Nat) (v_thrown : Int32) (v_trouble : Int32) (v_where : Int32) (v_read : Option Nat) (v_taped : Int32) (v_size : Int32) (v_at : Int32) (v_sort : Int32) (v_place : Int32) (v_sign : Int32) (v_number : Int32) (v_fault : Int32) (v_wrongAt : Int32) (v_word : Int64) (v_marks : Int32) (v_notes : Int32) (v_inn_minutes : Int32) (v_inn_rooms : Int32) (v_inn_doors : Int32) (v_inn_things : Int32) (v_inn_dreams : Int32) (v_inn_sleepers : Int32) (v_inn_listeners : Int32) (v_inn_names : Int32) (v_inn_creak : Nat → Int32) (v_inn_listens : Nat → Int32) (v_far : Nat → Int32) (v_w : Nat → Int32) : va_W := [(h, .inr (11, [.int v_thrown, .int v_trouble, .int v_where, .ref h_inn, va_rf v_read, .ref h_tape, .int v_taped, .int v_size, .int v_at, .int v_sort, .int v_place, .int v_sign, .int v_number, .int v_fault, .int v_wrongAt, .long v_word, .ref h_far, .ref h_from, .ref h_real, .ref h_other, .ref h_kept, .ref h_set, .ref h_w, .int v_marks, .int v_notes, .ref h_book, .ref h_noteSort, .ref h_whose, .ref h_what, .ref h_noteIs, .ref h_fitting, .ref h_dawn, .ref h_likes, .ref h_walked, .ref h_came])), (h_inn, .inr (10, [.int v_inn_minutes, .int v_inn_rooms, .int v_inn_doors, .int v_inn_things, .int v_inn_dreams, .int v_inn_sleepers, .int v_inn_listeners, .int v_inn_names, .ref h_inn_creak, .ref h_inn_doorA, .ref h_inn_doorB, .ref h_inn_how, .ref h_inn_lies, .ref h_inn_isCold, .ref h_inn_falls, .ref h_inn_isFull, .ref h_inn_isTold, .ref h_inn_act, .ref h_inn_what, .ref h_inn_then, .ref h_inn_met, .ref h_inn_bed, .ref h_inn_dream, .ref h_inn_listens, .ref h_inn_name, .ref h_inn_nameSort, .ref h_inn_nameNumber])), (h_inn_creak, aI E 8 v_inn_creak), (h_inn_listens, aI E 3 v_inn_listens), (h_far, aI E 64 v_far), (h_w, aI E 51 v_w)]
def BX12_creaksIn_2 (v_inn_listeners : Int32) (p0 : Int32) (v_inn_listens : Nat → Int32) (v_far : Nat → Int32) (v_inn_creak : Nat → Int32) (rec2 : (Int32 × (Nat → Int32)) → Option (Nat → Int32)) : (Int32 × (Nat → Int32)) → Option (Nat → Int32) := un2 fun (x2_2 : Int32) (x2_w : Nat → Int32) => if v_inn_listeners ≤ x2_2 then (some x2_w) else (gd p0 8 (gd x2_2 3 (gd ((8 * p0) + (v_inn_listens x2_2.toNatClampNeg)) 64 (jn (un1 fun (x82_w : Nat → Int32) => rec2 (x2_2 + 1, x82_w)) (fun j82 => if (v_far ((8 * p0) + (v_inn_listens x2_2.toNatClampNeg)).toNatClampNeg) < (v_inn_creak p0.toNatClampNeg) then (gd 49 51 (gd ((43 + (2 * x2_2)) + (((x2_w (49 : Int32).toNatClampNeg) - 1) / 20)) 51 (gd ((43 + (2 * x2_2)) + (((x2_w (49 : Int32).toNatClampNeg) - 1) / 20)) 51 (j82 (upd x2_w ((43 + (2 * x2_2)) + (((x2_w (49 : Int32).toNatClampNeg) - 1) / 20)).toNatClampNeg ((x2_w ((43 + (2 * x2_2)) + (((x2_w (49 : Int32).toNatClampNeg) - 1) / 20)).toNatClampNeg) ||| (1 <<< ((((x2_w (49 : Int32).toNatClampNeg) - 1) - ((x2_w (49 : Int32).toNatClampNeg) - 1) / 20 * 20) &&& 31)))))))) else (j82 x2_w))))))
def fX12_creaksIn (N : Nat) (p0 : Int32) (v_inn_listeners : Int32) (v_inn_creak : Nat → Int32) (v_inn_listens : Nat → Int32) (v_far : Nat → Int32) (v_w : Nat → Int32) : Option (Nat → Int32) := lp (BX12_creaksIn_2 v_inn_listeners p0 v_inn_listens v_far v_inn_creak) N (0, v_w)
set_option maxHeartbeats 4000000 in
set_option maxRecDepth 100000 in
theorem ctX12_creaksIn (l : Launch) (E : EN) (h h_inn h_tape h_far h_from h_real h_other h_kept h_set h_w h_book h_noteSort h_whose h_what h_noteIs h_fitting h_dawn h_likes h_walked h_came h_inn_creak h_inn_doorA h_inn_doorB h_inn_how h_inn_lies h_inn_isCold h_inn_falls h_inn_isFull h_inn_isTold h_inn_act h_inn_what h_inn_then h_inn_met h_inn_bed h_inn_dream h_inn_listens h_inn_name h_inn_nameSort h_inn_nameNumber : Nat) (v_thrown : Int32) (v_trouble : Int32) (v_where : Int32) (v_read : Option Nat) (v_taped : Int32) (v_size : Int32) (v_at : Int32) (v_sort : Int32) (v_place : Int32) (v_sign : Int32) (v_number : Int32) (v_fault : Int32) (v_wrongAt : Int32) (v_word : Int64) (v_marks : Int32) (v_notes : Int32) (v_inn_minutes : Int32) (v_inn_rooms : Int32) (v_inn_doors : Int32) (v_inn_things : Int32) (v_inn_dreams : Int32) (v_inn_sleepers : Int32) (v_inn_listeners : Int32) (v_inn_names : Int32) (v_inn_creak : Nat → Int32) (v_inn_listens : Nat → Int32) (v_far : Nat → Int32) (v_w : Nat → Int32) (N : Nat) (p0 : Int32) (z : Nat → Int32) (hf : fX12_creaksIn N p0 v_inn_listeners v_inn_creak v_inn_listens v_far v_w = some z) : CTv l E yX12_creaksIn cX12_creaksIn 4 0 0 [.ref h, .int p0] (wX12_creaksIn E h h_inn h_tape h_far h_from h_real h_other h_kept h_set h_w h_book h_noteSort h_whose h_what h_noteIs h_fitting h_dawn h_likes h_walked h_came h_inn_creak h_inn_doorA h_inn_doorB h_inn_how h_inn_lies h_inn_isCold h_inn_falls h_inn_isFull h_inn_isTold h_inn_act h_inn_what h_inn_then h_inn_met h_inn_bed h_inn_dream h_inn_listens h_inn_name h_inn_nameSort h_inn_nameNumber v_thrown v_trouble v_where v_read v_taped v_size v_at v_sort v_place v_sign v_number v_fault v_wrongAt v_word v_marks v_notes v_inn_minutes v_inn_rooms v_inn_doors v_inn_things v_inn_dreams v_inn_sleepers v_inn_listeners v_inn_names v_inn_creak v_inn_listens v_far v_w) (wX12_creaksIn E h h_inn h_tape h_far h_from h_real h_other h_kept h_set h_w h_book h_noteSort h_whose h_what h_noteIs h_fitting h_dawn h_likes h_walked h_came h_inn_creak h_inn_doorA h_inn_doorB h_inn_how h_inn_lies h_inn_isCold h_inn_falls h_inn_isFull h_inn_isTold h_inn_act h_inn_what h_inn_then h_inn_met h_inn_bed h_inn_dream h_inn_listens h_inn_name h_inn_nameSort h_inn_nameNumber v_thrown v_trouble v_where v_read v_taped v_size v_at v_sort v_place v_sign v_number v_fault v_wrongAt v_word v_marks v_notes v_inn_minutes v_inn_rooms v_inn_doors v_inn_things v_inn_dreams v_inn_sleepers v_inn_listeners v_inn_names v_inn_creak v_inn_listens v_far z) := by
  intro sz
  refine ct_body (by decide) (Nat.le_of_ble_eq_true rfl) ?_
  intro p e s m args below meth c A ls hAe C hr hin hP hD hS hl
  have C : CX p s m args meth c cX12_creaksIn RX12 4 E A := C
  have hl : lv_has ls 4 [(0, .ref h), (1, .int p0)] := hl
  have hx := C.1
  have hb := C.2.1
  rw [hAe]
  clear hAe
  obtain ⟨Q, hQ⟩ : ∃ Q, Q = MQ below (Qv E A (wX12_creaksIn E h h_inn h_tape h_far h_from h_real h_other h_kept h_set h_w h_book h_noteSort h_whose h_what h_noteIs h_fitting h_dawn h_likes h_walked h_came h_inn_creak h_inn_doorA h_inn_doorB h_inn_how h_inn_lies h_inn_isCold h_inn_falls h_inn_isFull h_inn_isTold h_inn_act h_inn_what h_inn_then h_inn_met h_inn_bed h_inn_dream h_inn_listens h_inn_name h_inn_nameSort h_inn_nameNumber v_thrown v_trouble v_where v_read v_taped v_size v_at v_sort v_place v_sign v_number v_fault v_wrongAt v_word v_marks v_notes v_inn_minutes v_inn_rooms v_inn_doors v_inn_things v_inn_dreams v_inn_sleepers v_inn_listeners v_inn_names v_inn_creak v_inn_listens v_far z)) args s 0 0 A := ⟨_, rfl⟩
  rw [← hQ]
  unfold fX12_creaksIn at hf
  refine lv_iconst (pc := 0) (v := 0) hx hb dX12_creaksIn_0 (by decide) ?_
  refine lv_istore_n (pc := 1) (lv' := [(2, .int 0), (0, .ref h), (1, .int p0)]) hx hb dX12_creaksIn_1 rfl hl (by decide) rfl (fun ls hl => ?_)
  have key2 : ∀ (n : Nat) (x2_2 : Int32) (x2_w : Nat → Int32) , lp (BX12_creaksIn_2 v_inn_listeners p0 v_inn_listens v_far v_inn_creak) n (x2_2, x2_w) = some z → AT p l e (rmOf 0 0) s m args below meth c E A Q 0 0 4 [(0, .ref h), (1, .int p0), (2, .int x2_2)] (wX12_creaksIn E h h_inn h_tape h_far h_from h_real h_other h_kept h_set h_w h_book h_noteSort h_whose h_what h_noteIs h_fitting h_dawn h_likes h_walked h_came h_inn_creak h_inn_doorA h_inn_doorB h_inn_how h_inn_lies h_inn_isCold h_inn_falls h_inn_isFull h_inn_isTold h_inn_act h_inn_what h_inn_then h_inn_met h_inn_bed h_inn_dream h_inn_listens h_inn_name h_inn_nameSort h_inn_nameNumber v_thrown v_trouble v_where v_read v_taped v_size v_at v_sort v_place v_sign v_number v_fault v_wrongAt v_word v_marks v_notes v_inn_minutes v_inn_rooms v_inn_doors v_inn_things v_inn_dreams v_inn_sleepers v_inn_listeners v_inn_names v_inn_creak v_inn_listens v_far x2_w) 2 [] := by
    intro n
    induction n with
    | zero => intro x2_2 x2_w hf; exact (lp_0 hf).elim
    | succ n ih2 =>
      intro x2_2 x2_w hf H locs ls hl hP hD hS
      replace hf := lp_s hf
      generalize lp (BX12_creaksIn_2 v_inn_listeners p0 v_inn_listens v_far v_inn_creak) n = rec2 at ih2 hf
      unfold BX12_creaksIn_2 at hf
      replace hf := un2_s hf
      refine lv_iload_n (pc := 2) hx hb dX12_creaksIn_2 rfl (lv_at hl 2 rfl) ?_
      refine lv_aload_n (pc := 3) hx hb dX12_creaksIn_3 rfl (lv_at hl 0 rfl) ?_
      refine r_get (pc := 4) C hP 0 rfl fl_X12_358 rfl dX12_creaksIn_4 ?_
      refine r_get (pc := 7) C hP 1 rfl fl_X12_346 rfl dX12_creaksIn_7 ?_
      refine lv_icmp_ge (pc := 10) (tgt := 88) hx hb dX12_creaksIn_10 (by decide) (fun c_10 => ?_) (fun c_10 => ?_)
      · replace hf := it_t c_10 hf
        cases hf
        rw [hQ]
        exact r_vret C hr hP hD hS dX12_creaksIn_88
      · replace hf := it_f c_10 hf
        refine lv_aload_n (pc := 13) hx hb dX12_creaksIn_13 rfl (lv_at hl 0 rfl) ?_
        refine r_get (pc := 14) C hP 0 rfl fl_X12_358 rfl dX12_creaksIn_14 ?_
        refine r_get (pc := 17) C hP 1 rfl fl_X12_287 rfl dX12_creaksIn_17 ?_
        refine lv_iload_n (pc := 20) hx hb dX12_creaksIn_20 rfl (lv_at hl 1 rfl) ?_
        obtain ⟨hi_21, hf⟩ := gd_s hf
        refine r_iald (pc := 21) C hP 2 rfl hi_21 dX12_creaksIn_21 ?_
        refine lv_aload_n (pc := 22) hx hb dX12_creaksIn_22 rfl (lv_at hl 0 rfl) ?_
        refine r_get (pc := 23) C hP 0 rfl fl_X12_17 rfl dX12_creaksIn_23 ?_
        refine lv_bipush (pc := 26) (v := 8) hx hb dX12_creaksIn_26 (by decide) ?_
        refine lv_iload_n (pc := 28) hx hb dX12_creaksIn_28 rfl (lv_at hl 1 rfl) ?_
        refine lv_imul (pc := 29) hx hb dX12_creaksIn_29 ?_
        refine lv_aload_n (pc := 30) hx hb dX12_creaksIn_30 rfl (lv_at hl 0 rfl) ?_
        refine r_get (pc := 31) C hP 0 rfl fl_X12_358 rfl dX12_creaksIn_31 ?_
        refine r_get (pc := 34) C hP 1 rfl fl_X12_349 rfl dX12_creaksIn_34 ?_
        refine lv_iload_n (pc := 37) hx hb dX12_creaksIn_37 rfl (lv_at hl 2 rfl) ?_
        obtain ⟨hi_38, hf⟩ := gd_s hf
        refine r_iald (pc := 38) C hP 3 rfl hi_38 dX12_creaksIn_38 ?_
        refine lv_iadd (pc := 39) hx hb dX12_creaksIn_39 ?_
        obtain ⟨hi_40, hf⟩ := gd_s hf
        refine r_iald (pc := 40) C hP 4 rfl hi_40 dX12_creaksIn_40 ?_
        refine jnK hf (fun j82 ej82 hf => ?_)
        have hj82 : ∀ (x82_w : Nat → Int32) , j82 x82_w = some z → AT p l e (rmOf 0 0) s m args below meth c E A Q 0 0 4 [(0, .ref h), (1, .int p0), (2, .int x2_2)] (wX12_creaksIn E h h_inn h_tape h_far h_from h_real h_other h_kept h_set h_w h_book h_noteSort h_whose h_what h_noteIs h_fitting h_dawn h_likes h_walked h_came h_inn_creak h_inn_doorA h_inn_doorB h_inn_how h_inn_lies h_inn_isCold h_inn_falls h_inn_isFull h_inn_isTold h_inn_act h_inn_what h_inn_then h_inn_met h_inn_bed h_inn_dream h_inn_listens h_inn_name h_inn_nameSort h_inn_nameNumber v_thrown v_trouble v_where v_read v_taped v_size v_at v_sort v_place v_sign v_number v_fault v_wrongAt v_word v_marks v_notes v_inn_minutes v_inn_rooms v_inn_doors v_inn_things v_inn_dreams v_inn_sleepers v_inn_listeners v_inn_names v_inn_creak v_inn_listens v_far x82_w) 82 [] := by
          intro x82_w hf H locs ls hl hP hD hS
          rw [ej82] at hf
          replace hf := un1_s hf
          refine lv_iinc (pc := 82) (v := x2_2 + 1) (lv' := [(2, .int (x2_2 + 1)), (0, .ref h), (1, .int p0)]) hx hb dX12_creaksIn_82 hl (k := 2) rfl rfl (by decide) rfl (fun ls hl => ?_)
          refine lv_goto (pc := 85) (tgt := 2) hx hb dX12_creaksIn_85 (by decide) ?_
          exact ih2 (x2_2 + 1) x82_w hf _ _ _ (lv_sub hl [1, 2, 0] rfl) hP hD hS
        clear ej82
        refine lv_icmp_gt (pc := 41) (tgt := 47) hx hb dX12_creaksIn_41 (by decide) (fun c_41 => ?_) (fun c_41 => ?_)
        · replace hf := it_t c_41 hf
          refine lv_aload_n (pc := 47) hx hb dX12_creaksIn_47 rfl (lv_at hl 0 rfl) ?_
          refine r_get (pc := 48) C hP 0 rfl fl_X12_36 rfl dX12_creaksIn_48 ?_
          refine lv_bipush (pc := 51) (v := 49) hx hb dX12_creaksIn_51 (by decide) ?_
          obtain ⟨hi_53, hf⟩ := gd_s hf
          refine r_iald (pc := 53) C hP 5 rfl hi_53 dX12_creaksIn_53 ?_
          refine lv_iconst (pc := 54) (v := 1) hx hb dX12_creaksIn_54 (by decide) ?_
          refine lv_isub (pc := 55) hx hb dX12_creaksIn_55 ?_
          refine lv_istore_n (pc := 56) (lv' := [(3, .int ((x2_w (49 : Int32).toNatClampNeg) - 1)), (0, .ref h), (1, .int p0), (2, .int x2_2)]) hx hb dX12_creaksIn_56 rfl hl (by decide) rfl (fun ls hl => ?_)
          refine lv_aload_n (pc := 57) hx hb dX12_creaksIn_57 rfl (lv_at hl 1 rfl) ?_
          refine r_get (pc := 58) C hP 0 rfl fl_X12_36 rfl dX12_creaksIn_58 ?_
          refine lv_bipush (pc := 61) (v := 43) hx hb dX12_creaksIn_61 (by decide) ?_
          refine lv_iconst (pc := 63) (v := 2) hx hb dX12_creaksIn_63 (by decide) ?_
          refine lv_iload_n (pc := 64) hx hb dX12_creaksIn_64 rfl (lv_at hl 3 rfl) ?_
          refine lv_imul (pc := 65) hx hb dX12_creaksIn_65 ?_
          refine lv_iadd (pc := 66) hx hb dX12_creaksIn_66 ?_
          refine lv_iload_n (pc := 67) hx hb dX12_creaksIn_67 rfl (lv_at hl 0 rfl) ?_
          refine lv_bipush (pc := 68) (v := 20) hx hb dX12_creaksIn_68 (by decide) ?_
          refine lv_idiv (pc := 70) hx hb dX12_creaksIn_70 (by decide) ?_
          refine lv_iadd (pc := 71) hx hb dX12_creaksIn_71 ?_
          refine lv_dup2_11 (pc := 72) hx hb dX12_creaksIn_72 rfl rfl ?_
          obtain ⟨hi_73, hf⟩ := gd_s hf
          refine r_iald (pc := 73) C hP 5 rfl hi_73 dX12_creaksIn_73 ?_
          refine lv_iconst (pc := 74) (v := 1) hx hb dX12_creaksIn_74 (by decide) ?_
          refine lv_iload_n (pc := 75) hx hb dX12_creaksIn_75 rfl (lv_at hl 0 rfl) ?_
          refine lv_bipush (pc := 76) (v := 20) hx hb dX12_creaksIn_76 (by decide) ?_
          refine lv_irem (pc := 78) hx hb dX12_creaksIn_78 (by decide) ?_
          refine lv_ishl (pc := 79) hx hb dX12_creaksIn_79 ?_
          refine lv_ior (pc := 80) hx hb dX12_creaksIn_80 ?_
          obtain ⟨hi_81, hf⟩ := gd_s hf
          refine r_iast (pc := 81) (ws' := (wX12_creaksIn E h h_inn h_tape h_far h_from h_real h_other h_kept h_set h_w h_book h_noteSort h_whose h_what h_noteIs h_fitting h_dawn h_likes h_walked h_came h_inn_creak h_inn_doorA h_inn_doorB h_inn_how h_inn_lies h_inn_isCold h_inn_falls h_inn_isFull h_inn_isTold h_inn_act h_inn_what h_inn_then h_inn_met h_inn_bed h_inn_dream h_inn_listens h_inn_name h_inn_nameSort h_inn_nameNumber v_thrown v_trouble v_where v_read v_taped v_size v_at v_sort v_place v_sign v_number v_fault v_wrongAt v_word v_marks v_notes v_inn_minutes v_inn_rooms v_inn_doors v_inn_things v_inn_dreams v_inn_sleepers v_inn_listeners v_inn_names v_inn_creak v_inn_listens v_far (upd x2_w ((43 + (2 * x2_2)) + (((x2_w (49 : Int32).toNatClampNeg) - 1) / 20)).toNatClampNeg ((x2_w ((43 + (2 * x2_2)) + (((x2_w (49 : Int32).toNatClampNeg) - 1) / 20)).toNatClampNeg) ||| (1 <<< ((((x2_w (49 : Int32).toNatClampNeg) - 1) - ((x2_w (49 : Int32).toNatClampNeg) - 1) / 20 * 20) &&& 31)))))) C hP hD hS 5 rfl hi_81 rfl dX12_creaksIn_81 ?_
          clear hP hD hS; intro H locs hP hD hS
          exact hj82 (upd x2_w ((43 + (2 * x2_2)) + (((x2_w (49 : Int32).toNatClampNeg) - 1) / 20)).toNatClampNeg ((x2_w ((43 + (2 * x2_2)) + (((x2_w (49 : Int32).toNatClampNeg) - 1) / 20)).toNatClampNeg) ||| (1 <<< ((((x2_w (49 : Int32).toNatClampNeg) - 1) - ((x2_w (49 : Int32).toNatClampNeg) - 1) / 20 * 20) &&& 31)))) hf _ _ _ (lv_sub hl [1, 2, 3] rfl) hP hD hS
        · replace hf := it_f c_41 hf
          refine lv_goto (pc := 44) (tgt := 82) hx hb dX12_creaksIn_44 (by decide) ?_
          exact hj82 x2_w hf _ _ _ (lv_sub hl [0, 1, 2] rfl) hP hD hS
  exact key2 _ 0 v_w hf _ _ _ (lv_sub hl [1, 2, 0] rfl) hP hD hS
def wX12_goes (E : EN) (h h_inn h_tape h_far h_from h_real h_other h_kept h_set h_w h_book h_noteSort h_whose h_what h_noteIs h_fitting h_dawn h_likes h_walked h_came h_inn_creak h_inn_doorA h_inn_doorB h_inn_how h_inn_lies h_inn_isCold h_inn_falls h_inn_isFull h_inn_isTold h_inn_act h_inn_what h_inn_then h_inn_met h_inn_bed h_inn_dream h_inn_listens h_inn_name h_inn_nameSort h_inn_nameNumber : Nat) (v_thrown : Int32) (v_trouble : Int32) (v_where : Int32) (v_read : Option Nat) (v_taped : Int32) (v_size : Int32) (v_at : Int32) (v_sort : Int32) (v_place : Int32) (v_sign : Int32) (v_number : Int32) (v_fault : Int32) (v_wrongAt : Int32) (v_word : Int64) (v_marks : Int32) (v_notes : Int32) (v_w : Nat → Int32) (v_inn_minutes : Int32) (v_inn_rooms : Int32) (v_inn_doors : Int32) (v_inn_things : Int32) (v_inn_dreams : Int32) (v_inn_sleepers : Int32) (v_inn_listeners : Int32) (v_inn_names : Int32) (v_inn_doorA : Nat → Int32) (v_from : Nat → Int32) (v_inn_doorB : Nat → Int32) (v_inn_falls : Nat → Int32) (v_inn_creak : Nat → Int32) (v_inn_listens : Nat → Int32) (v_far : Nat → Int32) (v_inn_isCold : Nat → Int32) (v_inn_isTold : Nat → Int32) (v_inn_met : Nat → Int32) : va_W := [(h, .inr (11, [.int v_thrown, .int v_trouble, .int v_where, .ref h_inn, va_rf v_read, .ref h_tape, .int v_taped, .int v_size, .int v_at, .int v_sort, .int v_place, .int v_sign, .int v_number, .int v_fault, .int v_wrongAt, .long v_word, .ref h_far, .ref h_from, .ref h_real, .ref h_other, .ref h_kept, .ref h_set, .ref h_w, .int v_marks, .int v_notes, .ref h_book, .ref h_noteSort, .ref h_whose, .ref h_what, .ref h_noteIs, .ref h_fitting, .ref h_dawn, .ref h_likes, .ref h_walked, .ref h_came])), (h_w, aI E 51 v_w), (h_inn, .inr (10, [.int v_inn_minutes, .int v_inn_rooms, .int v_inn_doors, .int v_inn_things, .int v_inn_dreams, .int v_inn_sleepers, .int v_inn_listeners, .int v_inn_names, .ref h_inn_creak, .ref h_inn_doorA, .ref h_inn_doorB, .ref h_inn_how, .ref h_inn_lies, .ref h_inn_isCold, .ref h_inn_falls, .ref h_inn_isFull, .ref h_inn_isTold, .ref h_inn_act, .ref h_inn_what, .ref h_inn_then, .ref h_inn_met, .ref h_inn_bed, .ref h_inn_dream, .ref h_inn_listens, .ref h_inn_name, .ref h_inn_nameSort, .ref h_inn_nameNumber])), (h_inn_doorA, aI E 10 v_inn_doorA), (h_from, aI E 8 v_from), (h_inn_doorB, aI E 10 v_inn_doorB), (h_inn_falls, aZ E 10 v_inn_falls), (h_inn_creak, aI E 8 v_inn_creak), (h_inn_listens, aI E 3 v_inn_listens), (h_far, aI E 64 v_far), (h_inn_isCold, aZ E 8 v_inn_isCold), (h_inn_isTold, aZ E 16 v_inn_isTold), (h_inn_met, aI E 16 v_inn_met)]
def BX12_goes_266 (v_inn_sleepers : Int32) (p0 : Int32) (x126_5 : Int32) (N : Nat) (v_inn_isTold : Nat → Int32) (v_inn_met : Nat → Int32) (K330 : (Int32 × (Nat → Int32)) → Option ((Nat → Int32) × (Nat → Int32))) (rec266 : (Int32 × Int32 × (Nat → Int32)) → Option ((Nat → Int32) × (Nat → Int32))) : (Int32 × Int32 × (Nat → Int32)) → Option ((Nat → Int32) × (Nat → Int32)) := un3 fun (x266_7 : Int32) (x266_8 : Int32) (x266_w : Nat → Int32) => if v_inn_sleepers ≤ x266_8 then (K330 (x266_7, x266_w)) else (jn (un2 fun (x324_7 : Int32) (x324_w : Nat → Int32) => rec266 (x324_7, x266_8 + 1, x324_w)) (fun j324 => if x266_8 = p0 then (j324 (x266_7, x266_w)) else (gd (9 + x266_8) 51 (if (x266_w (9 + x266_8).toNatClampNeg) = 1 then (j324 (x266_7, x266_w)) else (gd (0 + x266_8) 51 (if (x266_w (0 + x266_8).toNatClampNeg) = x126_5 then ((fX12_meets N x266_8 x266_w v_inn_isTold v_inn_met).bind (un1 fun (v_w_321 : Nat → Int32) => j324 (1, v_w_321))) else (j324 (x266_7, x266_w))))))))
def BX12_goes_28 (v_inn_rooms : Int32) (N : Nat) (r_10 : Int32) (v_from_19 : Nat → Int32) (v_w : Nat → Int32) (p0 : Int32) (v_inn_doors : Int32) (v_inn_doorA : Nat → Int32) (v_inn_doorB : Nat → Int32) (K126 : (Int32) → Option ((Nat → Int32) × (Nat → Int32))) (rec28 : (Int32 × Int32) → Option ((Nat → Int32) × (Nat → Int32))) : (Int32 × Int32) → Option ((Nat → Int32) × (Nat → Int32)) := un2 fun (x28_5 : Int32) (x28_6 : Int32) => if v_inn_rooms ≤ x28_6 then (K126 x28_5) else (jn (un1 fun (x60_s0 : Int32) => jn (un1 fun (x120_5 : Int32) => rec28 (x120_5, x28_6 + 1)) (fun j120 => if x60_s0 = (-1) then (j120 x28_5) else ((fX12_has N r_10 x60_s0).bind (un1 fun (r_72 : Int32) => if r_72 = 0 then (gd x28_6 8 (if (v_from_19 x28_6.toNatClampNeg) = 99 then (j120 x28_5) else (jn (un0 (j120 x28_6)) (fun j116 => if x28_5 = (-1) then (j116 ()) else (gd x28_6 8 (gd x28_5 8 (if (v_from_19 x28_5.toNatClampNeg) ≤ (v_from_19 x28_6.toNatClampNeg) then (j120 x28_5) else (j116 ())))))))) else (j120 x28_5))))) (fun j60 => if x28_6 = (v_w (0 + p0).toNatClampNeg) then (j60 (-1)) else ((fX11_between N (v_w (0 + p0).toNatClampNeg) x28_6 v_inn_doors v_inn_doorA v_inn_doorB).bind (un1 fun (r_57 : Int32) => j60 r_57))))
def fX12_goes (N : Nat) (p0 : Int32) (p1 : Int32) (v_w : Nat → Int32) (v_inn_rooms : Int32) (v_inn_doors : Int32) (v_inn_sleepers : Int32) (v_inn_listeners : Int32) (v_inn_doorA : Nat → Int32) (v_from : Nat → Int32) (v_inn_doorB : Nat → Int32) (v_inn_falls : Nat → Int32) (v_inn_creak : Nat → Int32) (v_inn_listens : Nat → Int32) (v_far : Nat → Int32) (v_inn_isCold : Nat → Int32) (v_inn_isTold : Nat → Int32) (v_inn_met : Nat → Int32) : Option ((Nat → Int32) × (Nat → Int32)) := gd (0 + p0) 51 ((fX12_lockedDoors N v_inn_doors v_w).bind (un1 fun (r_10 : Int32) => (fX12_measures N p1 r_10 v_inn_rooms v_inn_doors v_inn_doorA v_from v_inn_doorB).bind (un1 fun (v_from_19 : Nat → Int32) => lp (BX12_goes_28 v_inn_rooms N r_10 v_from_19 v_w p0 v_inn_doors v_inn_doorA v_inn_doorB (un1 fun (x126_5 : Int32) => if x126_5 = (-1) then (some (v_w, v_from_19)) else ((fX11_between N (v_w (0 + p0).toNatClampNeg) x126_5 v_inn_doors v_inn_doorA v_inn_doorB).bind (un1 fun (r_140 : Int32) => gd r_140 10 (jn (un2 fun (x172_s1 : Int32) (x172_s2 : Int32) => gd x172_s1 51 (gd (33 + r_140) 51 (gd (33 + r_140) 51 (gd (0 + p0) 51 (gd (6 + p0) 51 (jn (un1 fun (x230_w : Nat → Int32) => (fX12_creaksIn N x126_5 v_inn_listeners v_inn_creak v_inn_listens v_far x230_w).bind (un1 fun (v_w_233 : Nat → Int32) => gd x126_5 8 (if (v_inn_isCold x126_5.toNatClampNeg) = 0 then (lp (BX12_goes_266 v_inn_sleepers p0 x126_5 N v_inn_isTold v_inn_met (un2 fun (x330_7 : Int32) (x330_w : Nat → Int32) => if x330_7 = 0 then (some (x330_w, v_from_19)) else ((fX12_meets N p0 x330_w v_inn_isTold v_inn_met).bind (un1 fun (v_w_337 : Nat → Int32) => some (v_w_337, v_from_19))))) N (0, 0, v_w_233)) else (gd (9 + p0) 51 (some (upd v_w_233 (9 + p0).toNatClampNeg 1, v_from_19)))))) (fun j230 => if ((upd (upd (upd v_w x172_s1.toNatClampNeg x172_s2) (33 + r_140).toNatClampNeg (((upd v_w x172_s1.toNatClampNeg x172_s2) (33 + r_140).toNatClampNeg) + 1)) (0 + p0).toNatClampNeg x126_5) (6 + p0).toNatClampNeg) = (-2) then (j230 (upd (upd (upd v_w x172_s1.toNatClampNeg x172_s2) (33 + r_140).toNatClampNeg (((upd v_w x172_s1.toNatClampNeg x172_s2) (33 + r_140).toNatClampNeg) + 1)) (0 + p0).toNatClampNeg x126_5)) else (gd (6 + p0) 51 (gd (15 + ((upd (upd (upd v_w x172_s1.toNatClampNeg x172_s2) (33 + r_140).toNatClampNeg (((upd v_w x172_s1.toNatClampNeg x172_s2) (33 + r_140).toNatClampNeg) + 1)) (0 + p0).toNatClampNeg x126_5) (6 + p0).toNatClampNeg)) 51 (j230 (upd (upd (upd (upd v_w x172_s1.toNatClampNeg x172_s2) (33 + r_140).toNatClampNeg (((upd v_w x172_s1.toNatClampNeg x172_s2) (33 + r_140).toNatClampNeg) + 1)) (0 + p0).toNatClampNeg x126_5) (15 + ((upd (upd (upd v_w x172_s1.toNatClampNeg x172_s2) (33 + r_140).toNatClampNeg (((upd v_w x172_s1.toNatClampNeg x172_s2) (33 + r_140).toNatClampNeg) + 1)) (0 + p0).toNatClampNeg x126_5) (6 + p0).toNatClampNeg)).toNatClampNeg x126_5))))))))))) (fun j172 => if (v_inn_falls r_140.toNatClampNeg) = 0 then (j172 (23 + r_140, 0)) else (j172 (23 + r_140, 1)))))))) N ((-1), 0))))
set_option maxHeartbeats 4000000 in
set_option maxRecDepth 100000 in
theorem ctX12_goes (l : Launch) (E : EN) (h h_inn h_tape h_far h_from h_real h_other h_kept h_set h_w h_book h_noteSort h_whose h_what h_noteIs h_fitting h_dawn h_likes h_walked h_came h_inn_creak h_inn_doorA h_inn_doorB h_inn_how h_inn_lies h_inn_isCold h_inn_falls h_inn_isFull h_inn_isTold h_inn_act h_inn_what h_inn_then h_inn_met h_inn_bed h_inn_dream h_inn_listens h_inn_name h_inn_nameSort h_inn_nameNumber : Nat) (v_thrown : Int32) (v_trouble : Int32) (v_where : Int32) (v_read : Option Nat) (v_taped : Int32) (v_size : Int32) (v_at : Int32) (v_sort : Int32) (v_place : Int32) (v_sign : Int32) (v_number : Int32) (v_fault : Int32) (v_wrongAt : Int32) (v_word : Int64) (v_marks : Int32) (v_notes : Int32) (v_w : Nat → Int32) (v_inn_minutes : Int32) (v_inn_rooms : Int32) (v_inn_doors : Int32) (v_inn_things : Int32) (v_inn_dreams : Int32) (v_inn_sleepers : Int32) (v_inn_listeners : Int32) (v_inn_names : Int32) (v_inn_doorA : Nat → Int32) (v_from : Nat → Int32) (v_inn_doorB : Nat → Int32) (v_inn_falls : Nat → Int32) (v_inn_creak : Nat → Int32) (v_inn_listens : Nat → Int32) (v_far : Nat → Int32) (v_inn_isCold : Nat → Int32) (v_inn_isTold : Nat → Int32) (v_inn_met : Nat → Int32) (N : Nat) (p0 : Int32) (p1 : Int32) (z : (Nat → Int32) × (Nat → Int32)) (hf : fX12_goes N p0 p1 v_w v_inn_rooms v_inn_doors v_inn_sleepers v_inn_listeners v_inn_doorA v_from v_inn_doorB v_inn_falls v_inn_creak v_inn_listens v_far v_inn_isCold v_inn_isTold v_inn_met = some z) : CTv l E yX12_goes cX12_goes 9 2 45 [.ref h, .int p0, .int p1] (wX12_goes E h h_inn h_tape h_far h_from h_real h_other h_kept h_set h_w h_book h_noteSort h_whose h_what h_noteIs h_fitting h_dawn h_likes h_walked h_came h_inn_creak h_inn_doorA h_inn_doorB h_inn_how h_inn_lies h_inn_isCold h_inn_falls h_inn_isFull h_inn_isTold h_inn_act h_inn_what h_inn_then h_inn_met h_inn_bed h_inn_dream h_inn_listens h_inn_name h_inn_nameSort h_inn_nameNumber v_thrown v_trouble v_where v_read v_taped v_size v_at v_sort v_place v_sign v_number v_fault v_wrongAt v_word v_marks v_notes v_w v_inn_minutes v_inn_rooms v_inn_doors v_inn_things v_inn_dreams v_inn_sleepers v_inn_listeners v_inn_names v_inn_doorA v_from v_inn_doorB v_inn_falls v_inn_creak v_inn_listens v_far v_inn_isCold v_inn_isTold v_inn_met) (wX12_goes E h h_inn h_tape h_far h_from h_real h_other h_kept h_set h_w h_book h_noteSort h_whose h_what h_noteIs h_fitting h_dawn h_likes h_walked h_came h_inn_creak h_inn_doorA h_inn_doorB h_inn_how h_inn_lies h_inn_isCold h_inn_falls h_inn_isFull h_inn_isTold h_inn_act h_inn_what h_inn_then h_inn_met h_inn_bed h_inn_dream h_inn_listens h_inn_name h_inn_nameSort h_inn_nameNumber v_thrown v_trouble v_where v_read v_taped v_size v_at v_sort v_place v_sign v_number v_fault v_wrongAt v_word v_marks v_notes z.1 v_inn_minutes v_inn_rooms v_inn_doors v_inn_things v_inn_dreams v_inn_sleepers v_inn_listeners v_inn_names v_inn_doorA z.2 v_inn_doorB v_inn_falls v_inn_creak v_inn_listens v_far v_inn_isCold v_inn_isTold v_inn_met) := by
  intro sz
  refine ct_body (by decide) (Nat.le_of_ble_eq_true rfl) ?_
  intro p e s m args below meth c A ls hAe C hr hin hP hD hS hl
  have C : CX p s m args meth c cX12_goes RX12 9 E A := C
  have hl : lv_has ls 9 [(0, .ref h), (1, .int p0), (2, .int p1)] := hl
  have hx := C.1
  have hb := C.2.1
  rw [hAe]
  clear hAe
  obtain ⟨Q, hQ⟩ : ∃ Q, Q = MQ below (Qv E A (wX12_goes E h h_inn h_tape h_far h_from h_real h_other h_kept h_set h_w h_book h_noteSort h_whose h_what h_noteIs h_fitting h_dawn h_likes h_walked h_came h_inn_creak h_inn_doorA h_inn_doorB h_inn_how h_inn_lies h_inn_isCold h_inn_falls h_inn_isFull h_inn_isTold h_inn_act h_inn_what h_inn_then h_inn_met h_inn_bed h_inn_dream h_inn_listens h_inn_name h_inn_nameSort h_inn_nameNumber v_thrown v_trouble v_where v_read v_taped v_size v_at v_sort v_place v_sign v_number v_fault v_wrongAt v_word v_marks v_notes z.1 v_inn_minutes v_inn_rooms v_inn_doors v_inn_things v_inn_dreams v_inn_sleepers v_inn_listeners v_inn_names v_inn_doorA z.2 v_inn_doorB v_inn_falls v_inn_creak v_inn_listens v_far v_inn_isCold v_inn_isTold v_inn_met)) args s 0 0 A := ⟨_, rfl⟩
  rw [← hQ]
  unfold fX12_goes at hf
  refine lv_aload_n (pc := 0) hx hb dX12_goes_0 rfl (lv_at hl 0 rfl) ?_
  refine r_get (pc := 1) C hP 0 rfl fl_X12_36 rfl dX12_goes_1 ?_
  refine lv_iconst (pc := 4) (v := 0) hx hb dX12_goes_4 (by decide) ?_
  refine lv_iload_n (pc := 5) hx hb dX12_goes_5 rfl (lv_at hl 1 rfl) ?_
  refine lv_iadd (pc := 6) hx hb dX12_goes_6 ?_
  obtain ⟨hi_7, hf⟩ := gd_s hf
  refine r_iald (pc := 7) C hP 1 rfl hi_7 dX12_goes_7 ?_
  refine lv_istore_n (pc := 8) (lv' := [(3, .int (v_w (0 + p0).toNatClampNeg)), (0, .ref h), (1, .int p0), (2, .int p1)]) hx hb dX12_goes_8 rfl hl (by decide) rfl (fun ls hl => ?_)
  refine lv_aload_n (pc := 9) hx hb dX12_goes_9 rfl (lv_at hl 1 rfl) ?_
  obtain ⟨r_10, hc_10, hf⟩ := bd1 hf
  refine r_dalVi (pc := 10) (ws' := (wX12_goes E h h_inn h_tape h_far h_from h_real h_other h_kept h_set h_w h_book h_noteSort h_whose h_what h_noteIs h_fitting h_dawn h_likes h_walked h_came h_inn_creak h_inn_doorA h_inn_doorB h_inn_how h_inn_lies h_inn_isCold h_inn_falls h_inn_isFull h_inn_isTold h_inn_act h_inn_what h_inn_then h_inn_met h_inn_bed h_inn_dream h_inn_listens h_inn_name h_inn_nameSort h_inn_nameNumber v_thrown v_trouble v_where v_read v_taped v_size v_at v_sort v_place v_sign v_number v_fault v_wrongAt v_word v_marks v_notes v_w v_inn_minutes v_inn_rooms v_inn_doors v_inn_things v_inn_dreams v_inn_sleepers v_inn_listeners v_inn_names v_inn_doorA v_from v_inn_doorB v_inn_falls v_inn_creak v_inn_listens v_far v_inn_isCold v_inn_isTold v_inn_met)) (As := []) (rest := []) C (ctX12_lockedDoors l E h h_inn h_tape h_far h_from h_real h_other h_kept h_set h_w h_book h_noteSort h_whose h_what h_noteIs h_fitting h_dawn h_likes h_walked h_came h_inn_creak h_inn_doorA h_inn_doorB h_inn_how h_inn_lies h_inn_isCold h_inn_falls h_inn_isFull h_inn_isTold h_inn_act h_inn_what h_inn_then h_inn_met h_inn_bed h_inn_dream h_inn_listens h_inn_name h_inn_nameSort h_inn_nameNumber v_thrown v_trouble v_where v_read v_taped v_size v_at v_sort v_place v_sign v_number v_fault v_wrongAt v_word v_marks v_notes v_inn_minutes v_inn_rooms v_inn_doors v_inn_things v_inn_dreams v_inn_sleepers v_inn_listeners v_inn_names v_w N r_10 hc_10) ml_X12_391 ⟨Nat.le_of_ble_eq_true rfl, Nat.le_of_ble_eq_true rfl⟩ hP hD hS 0 rfl rfl rfl [0, 2, 1] [13, 15, 14, 3, 4, 5, 6, 7, 8, 9, 10, 11, 12] 13 rfl rfl rfl rfl rfl rfl rfl hl.1 rfl (Nat.le_of_ble_eq_true rfl) ⟨Nat.zero_le _, Nat.zero_le _⟩ dX12_goes_10 ?_
  clear hP hD hS; intro H locs hP hD hS
  refine lv_istore (pc := 13) (lv' := [(4, .int r_10), (3, .int (v_w (0 + p0).toNatClampNeg)), (0, .ref h), (1, .int p0), (2, .int p1)]) hx hb dX12_goes_13 hl (by decide) rfl (fun ls hl => ?_)
  refine lv_aload_n (pc := 15) hx hb dX12_goes_15 rfl (lv_at hl 2 rfl) ?_
  refine lv_iload_n (pc := 16) hx hb dX12_goes_16 rfl (lv_at hl 4 rfl) ?_
  refine lv_iload (pc := 17) hx hb dX12_goes_17 (lv_at hl 0 rfl) ?_
  obtain ⟨v_from_19, hc_19, hf⟩ := bd1 hf
  refine r_dalVv (pc := 19) (ws' := (wX12_goes E h h_inn h_tape h_far h_from h_real h_other h_kept h_set h_w h_book h_noteSort h_whose h_what h_noteIs h_fitting h_dawn h_likes h_walked h_came h_inn_creak h_inn_doorA h_inn_doorB h_inn_how h_inn_lies h_inn_isCold h_inn_falls h_inn_isFull h_inn_isTold h_inn_act h_inn_what h_inn_then h_inn_met h_inn_bed h_inn_dream h_inn_listens h_inn_name h_inn_nameSort h_inn_nameNumber v_thrown v_trouble v_where v_read v_taped v_size v_at v_sort v_place v_sign v_number v_fault v_wrongAt v_word v_marks v_notes v_w v_inn_minutes v_inn_rooms v_inn_doors v_inn_things v_inn_dreams v_inn_sleepers v_inn_listeners v_inn_names v_inn_doorA v_from_19 v_inn_doorB v_inn_falls v_inn_creak v_inn_listens v_far v_inn_isCold v_inn_isTold v_inn_met)) (As := [.int p1, .int r_10]) (rest := []) C (ctX12_measures l E h h_inn h_tape h_far h_from h_real h_other h_kept h_set h_w h_book h_noteSort h_whose h_what h_noteIs h_fitting h_dawn h_likes h_walked h_came h_inn_creak h_inn_doorA h_inn_doorB h_inn_how h_inn_lies h_inn_isCold h_inn_falls h_inn_isFull h_inn_isTold h_inn_act h_inn_what h_inn_then h_inn_met h_inn_bed h_inn_dream h_inn_listens h_inn_name h_inn_nameSort h_inn_nameNumber v_thrown v_trouble v_where v_read v_taped v_size v_at v_sort v_place v_sign v_number v_fault v_wrongAt v_word v_marks v_notes v_inn_minutes v_inn_rooms v_inn_doors v_inn_things v_inn_dreams v_inn_sleepers v_inn_listeners v_inn_names v_inn_doorA v_from v_inn_doorB N p1 r_10 v_from_19 hc_19) ml_X12_376 ⟨Nat.le_of_ble_eq_true rfl, Nat.le_of_ble_eq_true rfl⟩ hP hD hS 0 rfl rfl rfl [0, 2, 3, 4, 5] [13, 1, 14, 15, 16, 17, 6, 7, 8, 9, 10, 11, 12] 13 rfl rfl rfl rfl rfl rfl rfl hl.1 rfl (Nat.le_of_ble_eq_true rfl) ⟨Nat.zero_le _, Nat.zero_le _⟩ dX12_goes_19 ?_
  clear hP hD hS; intro H locs hP hD hS
  refine lv_iconst (pc := 22) (v := (-1)) hx hb dX12_goes_22 (by decide) ?_
  refine lv_istore (pc := 23) (lv' := [(5, .int (-1)), (4, .int r_10), (3, .int (v_w (0 + p0).toNatClampNeg)), (0, .ref h), (1, .int p0), (2, .int p1)]) hx hb dX12_goes_23 hl (by decide) rfl (fun ls hl => ?_)
  refine lv_iconst (pc := 25) (v := 0) hx hb dX12_goes_25 (by decide) ?_
  refine lv_istore (pc := 26) (lv' := [(6, .int 0), (5, .int (-1)), (4, .int r_10), (3, .int (v_w (0 + p0).toNatClampNeg)), (0, .ref h), (1, .int p0), (2, .int p1)]) hx hb dX12_goes_26 hl (by decide) rfl (fun ls hl => ?_)
  refine lpK hf (fun K126 eK126 hf => ?_)
  have hK126 : ∀ (x126_5 : Int32) , K126 x126_5 = some z → AT p l e (rmOf 2 45) s m args below meth c E A Q 0 0 9 [(0, .ref h), (1, .int p0), (3, .int (v_w (0 + p0).toNatClampNeg)), (5, .int x126_5)] (wX12_goes E h h_inn h_tape h_far h_from h_real h_other h_kept h_set h_w h_book h_noteSort h_whose h_what h_noteIs h_fitting h_dawn h_likes h_walked h_came h_inn_creak h_inn_doorA h_inn_doorB h_inn_how h_inn_lies h_inn_isCold h_inn_falls h_inn_isFull h_inn_isTold h_inn_act h_inn_what h_inn_then h_inn_met h_inn_bed h_inn_dream h_inn_listens h_inn_name h_inn_nameSort h_inn_nameNumber v_thrown v_trouble v_where v_read v_taped v_size v_at v_sort v_place v_sign v_number v_fault v_wrongAt v_word v_marks v_notes v_w v_inn_minutes v_inn_rooms v_inn_doors v_inn_things v_inn_dreams v_inn_sleepers v_inn_listeners v_inn_names v_inn_doorA v_from_19 v_inn_doorB v_inn_falls v_inn_creak v_inn_listens v_far v_inn_isCold v_inn_isTold v_inn_met) 126 [] := by
    intro x126_5 hf H locs ls hl hP hD hS
    rw [eK126] at hf
    replace hf := un1_s hf
    refine lv_iload (pc := 126) hx hb dX12_goes_126 (lv_at hl 3 rfl) ?_
    refine lv_iconst (pc := 128) (v := (-1)) hx hb dX12_goes_128 (by decide) ?_
    refine lv_icmp_ne (pc := 129) (tgt := 133) hx hb dX12_goes_129 (by decide) (fun c_129 => ?_) (fun c_129 => ?_)
    · replace hf := it_f c_129 hf
      refine lv_aload_n (pc := 133) hx hb dX12_goes_133 rfl (lv_at hl 0 rfl) ?_
      refine r_get (pc := 134) C hP 0 rfl fl_X12_358 rfl dX12_goes_134 ?_
      refine lv_iload_n (pc := 137) hx hb dX12_goes_137 rfl (lv_at hl 2 rfl) ?_
      refine lv_iload (pc := 138) hx hb dX12_goes_138 (lv_at hl 3 rfl) ?_
      obtain ⟨r_140, hc_140, hf⟩ := bd1 hf
      refine r_dalVi (pc := 140) (ws' := (wX12_goes E h h_inn h_tape h_far h_from h_real h_other h_kept h_set h_w h_book h_noteSort h_whose h_what h_noteIs h_fitting h_dawn h_likes h_walked h_came h_inn_creak h_inn_doorA h_inn_doorB h_inn_how h_inn_lies h_inn_isCold h_inn_falls h_inn_isFull h_inn_isTold h_inn_act h_inn_what h_inn_then h_inn_met h_inn_bed h_inn_dream h_inn_listens h_inn_name h_inn_nameSort h_inn_nameNumber v_thrown v_trouble v_where v_read v_taped v_size v_at v_sort v_place v_sign v_number v_fault v_wrongAt v_word v_marks v_notes v_w v_inn_minutes v_inn_rooms v_inn_doors v_inn_things v_inn_dreams v_inn_sleepers v_inn_listeners v_inn_names v_inn_doorA v_from_19 v_inn_doorB v_inn_falls v_inn_creak v_inn_listens v_far v_inn_isCold v_inn_isTold v_inn_met)) (As := [.int (v_w (0 + p0).toNatClampNeg), .int x126_5]) (rest := []) C (ctX11_between l E h_inn h_inn_creak h_inn_doorA h_inn_doorB h_inn_how h_inn_lies h_inn_isCold h_inn_falls h_inn_isFull h_inn_isTold h_inn_act h_inn_what h_inn_then h_inn_met h_inn_bed h_inn_dream h_inn_listens h_inn_name h_inn_nameSort h_inn_nameNumber v_inn_minutes v_inn_rooms v_inn_doors v_inn_things v_inn_dreams v_inn_sleepers v_inn_listeners v_inn_names v_inn_doorA v_inn_doorB N (v_w (0 + p0).toNatClampNeg) x126_5 r_140 hc_140) ml_X12_301 ⟨Nat.le_of_ble_eq_true rfl, Nat.le_of_ble_eq_true rfl⟩ hP hD hS 2 rfl rfl rfl [2, 3, 5] [0, 1, 13, 14, 4, 15, 6, 7, 8, 9, 10, 11, 12] 13 rfl rfl rfl rfl rfl rfl rfl hl.1 rfl (Nat.le_of_ble_eq_true rfl) ⟨Nat.zero_le _, Nat.zero_le _⟩ dX12_goes_140 ?_
      clear hP hD hS; intro H locs hP hD hS
      refine lv_istore (pc := 143) (lv' := [(6, .int r_140), (0, .ref h), (1, .int p0), (3, .int (v_w (0 + p0).toNatClampNeg)), (5, .int x126_5)]) hx hb dX12_goes_143 hl (by decide) rfl (fun ls hl => ?_)
      refine lv_aload_n (pc := 145) hx hb dX12_goes_145 rfl (lv_at hl 1 rfl) ?_
      refine r_get (pc := 146) C hP 0 rfl fl_X12_36 rfl dX12_goes_146 ?_
      refine lv_bipush (pc := 149) (v := 23) hx hb dX12_goes_149 (by decide) ?_
      refine lv_iload (pc := 151) hx hb dX12_goes_151 (lv_at hl 0 rfl) ?_
      refine lv_iadd (pc := 153) hx hb dX12_goes_153 ?_
      refine lv_aload_n (pc := 154) hx hb dX12_goes_154 rfl (lv_at hl 1 rfl) ?_
      refine r_get (pc := 155) C hP 0 rfl fl_X12_358 rfl dX12_goes_155 ?_
      refine r_get (pc := 158) C hP 2 rfl fl_X12_313 rfl dX12_goes_158 ?_
      refine lv_iload (pc := 161) hx hb dX12_goes_161 (lv_at hl 0 rfl) ?_
      obtain ⟨hi_163, hf⟩ := gd_s hf
      refine r_zald (pc := 163) C hP 6 rfl hi_163 dX12_goes_163 ?_
      refine jnK hf (fun j172 ej172 hf => ?_)
      have hj172 : ∀ (x172_s1 : Int32) (x172_s2 : Int32) , j172 (x172_s1, x172_s2) = some z → AT p l e (rmOf 2 45) s m args below meth c E A Q 0 0 9 [(0, .ref h), (1, .int p0), (5, .int x126_5), (6, .int r_140)] (wX12_goes E h h_inn h_tape h_far h_from h_real h_other h_kept h_set h_w h_book h_noteSort h_whose h_what h_noteIs h_fitting h_dawn h_likes h_walked h_came h_inn_creak h_inn_doorA h_inn_doorB h_inn_how h_inn_lies h_inn_isCold h_inn_falls h_inn_isFull h_inn_isTold h_inn_act h_inn_what h_inn_then h_inn_met h_inn_bed h_inn_dream h_inn_listens h_inn_name h_inn_nameSort h_inn_nameNumber v_thrown v_trouble v_where v_read v_taped v_size v_at v_sort v_place v_sign v_number v_fault v_wrongAt v_word v_marks v_notes v_w v_inn_minutes v_inn_rooms v_inn_doors v_inn_things v_inn_dreams v_inn_sleepers v_inn_listeners v_inn_names v_inn_doorA v_from_19 v_inn_doorB v_inn_falls v_inn_creak v_inn_listens v_far v_inn_isCold v_inn_isTold v_inn_met) 172 [.int x172_s2, .int x172_s1, .ref h_w] := by
        intro x172_s1 x172_s2 hf H locs ls hl hP hD hS
        rw [ej172] at hf
        replace hf := un2_s hf
        obtain ⟨hi_172, hf⟩ := gd_s hf
        refine r_iast (pc := 172) (ws' := (wX12_goes E h h_inn h_tape h_far h_from h_real h_other h_kept h_set h_w h_book h_noteSort h_whose h_what h_noteIs h_fitting h_dawn h_likes h_walked h_came h_inn_creak h_inn_doorA h_inn_doorB h_inn_how h_inn_lies h_inn_isCold h_inn_falls h_inn_isFull h_inn_isTold h_inn_act h_inn_what h_inn_then h_inn_met h_inn_bed h_inn_dream h_inn_listens h_inn_name h_inn_nameSort h_inn_nameNumber v_thrown v_trouble v_where v_read v_taped v_size v_at v_sort v_place v_sign v_number v_fault v_wrongAt v_word v_marks v_notes (upd v_w x172_s1.toNatClampNeg x172_s2) v_inn_minutes v_inn_rooms v_inn_doors v_inn_things v_inn_dreams v_inn_sleepers v_inn_listeners v_inn_names v_inn_doorA v_from_19 v_inn_doorB v_inn_falls v_inn_creak v_inn_listens v_far v_inn_isCold v_inn_isTold v_inn_met)) C hP hD hS 1 rfl hi_172 rfl dX12_goes_172 ?_
        clear hP hD hS; intro H locs hP hD hS
        refine lv_aload_n (pc := 173) hx hb dX12_goes_173 rfl (lv_at hl 0 rfl) ?_
        refine r_get (pc := 174) C hP 0 rfl fl_X12_36 rfl dX12_goes_174 ?_
        refine lv_bipush (pc := 177) (v := 33) hx hb dX12_goes_177 (by decide) ?_
        refine lv_iload (pc := 179) hx hb dX12_goes_179 (lv_at hl 3 rfl) ?_
        refine lv_iadd (pc := 181) hx hb dX12_goes_181 ?_
        refine lv_dup2_11 (pc := 182) hx hb dX12_goes_182 rfl rfl ?_
        obtain ⟨hi_183, hf⟩ := gd_s hf
        refine r_iald (pc := 183) C hP 1 rfl hi_183 dX12_goes_183 ?_
        refine lv_iconst (pc := 184) (v := 1) hx hb dX12_goes_184 (by decide) ?_
        refine lv_iadd (pc := 185) hx hb dX12_goes_185 ?_
        obtain ⟨hi_186, hf⟩ := gd_s hf
        refine r_iast (pc := 186) (ws' := (wX12_goes E h h_inn h_tape h_far h_from h_real h_other h_kept h_set h_w h_book h_noteSort h_whose h_what h_noteIs h_fitting h_dawn h_likes h_walked h_came h_inn_creak h_inn_doorA h_inn_doorB h_inn_how h_inn_lies h_inn_isCold h_inn_falls h_inn_isFull h_inn_isTold h_inn_act h_inn_what h_inn_then h_inn_met h_inn_bed h_inn_dream h_inn_listens h_inn_name h_inn_nameSort h_inn_nameNumber v_thrown v_trouble v_where v_read v_taped v_size v_at v_sort v_place v_sign v_number v_fault v_wrongAt v_word v_marks v_notes (upd (upd v_w x172_s1.toNatClampNeg x172_s2) (33 + r_140).toNatClampNeg (((upd v_w x172_s1.toNatClampNeg x172_s2) (33 + r_140).toNatClampNeg) + 1)) v_inn_minutes v_inn_rooms v_inn_doors v_inn_things v_inn_dreams v_inn_sleepers v_inn_listeners v_inn_names v_inn_doorA v_from_19 v_inn_doorB v_inn_falls v_inn_creak v_inn_listens v_far v_inn_isCold v_inn_isTold v_inn_met)) C hP hD hS 1 rfl hi_186 rfl dX12_goes_186 ?_
        clear hP hD hS; intro H locs hP hD hS
        refine lv_aload_n (pc := 187) hx hb dX12_goes_187 rfl (lv_at hl 0 rfl) ?_
        refine r_get (pc := 188) C hP 0 rfl fl_X12_36 rfl dX12_goes_188 ?_
        refine lv_iconst (pc := 191) (v := 0) hx hb dX12_goes_191 (by decide) ?_
        refine lv_iload_n (pc := 192) hx hb dX12_goes_192 rfl (lv_at hl 1 rfl) ?_
        refine lv_iadd (pc := 193) hx hb dX12_goes_193 ?_
        refine lv_iload (pc := 194) hx hb dX12_goes_194 (lv_at hl 2 rfl) ?_
        obtain ⟨hi_196, hf⟩ := gd_s hf
        refine r_iast (pc := 196) (ws' := (wX12_goes E h h_inn h_tape h_far h_from h_real h_other h_kept h_set h_w h_book h_noteSort h_whose h_what h_noteIs h_fitting h_dawn h_likes h_walked h_came h_inn_creak h_inn_doorA h_inn_doorB h_inn_how h_inn_lies h_inn_isCold h_inn_falls h_inn_isFull h_inn_isTold h_inn_act h_inn_what h_inn_then h_inn_met h_inn_bed h_inn_dream h_inn_listens h_inn_name h_inn_nameSort h_inn_nameNumber v_thrown v_trouble v_where v_read v_taped v_size v_at v_sort v_place v_sign v_number v_fault v_wrongAt v_word v_marks v_notes (upd (upd (upd v_w x172_s1.toNatClampNeg x172_s2) (33 + r_140).toNatClampNeg (((upd v_w x172_s1.toNatClampNeg x172_s2) (33 + r_140).toNatClampNeg) + 1)) (0 + p0).toNatClampNeg x126_5) v_inn_minutes v_inn_rooms v_inn_doors v_inn_things v_inn_dreams v_inn_sleepers v_inn_listeners v_inn_names v_inn_doorA v_from_19 v_inn_doorB v_inn_falls v_inn_creak v_inn_listens v_far v_inn_isCold v_inn_isTold v_inn_met)) C hP hD hS 1 rfl hi_196 rfl dX12_goes_196 ?_
        clear hP hD hS; intro H locs hP hD hS
        refine lv_aload_n (pc := 197) hx hb dX12_goes_197 rfl (lv_at hl 0 rfl) ?_
        refine r_get (pc := 198) C hP 0 rfl fl_X12_36 rfl dX12_goes_198 ?_
        refine lv_bipush (pc := 201) (v := 6) hx hb dX12_goes_201 (by decide) ?_
        refine lv_iload_n (pc := 203) hx hb dX12_goes_203 rfl (lv_at hl 1 rfl) ?_
        refine lv_iadd (pc := 204) hx hb dX12_goes_204 ?_
        obtain ⟨hi_205, hf⟩ := gd_s hf
        refine r_iald (pc := 205) C hP 1 rfl hi_205 dX12_goes_205 ?_
        refine lv_bipush (pc := 206) (v := (-2)) hx hb dX12_goes_206 (by decide) ?_
        refine jnK hf (fun j230 ej230 hf => ?_)
        have hj230 : ∀ (x230_w : Nat → Int32) , j230 x230_w = some z → AT p l e (rmOf 2 45) s m args below meth c E A Q 0 0 9 [(0, .ref h), (1, .int p0), (5, .int x126_5)] (wX12_goes E h h_inn h_tape h_far h_from h_real h_other h_kept h_set h_w h_book h_noteSort h_whose h_what h_noteIs h_fitting h_dawn h_likes h_walked h_came h_inn_creak h_inn_doorA h_inn_doorB h_inn_how h_inn_lies h_inn_isCold h_inn_falls h_inn_isFull h_inn_isTold h_inn_act h_inn_what h_inn_then h_inn_met h_inn_bed h_inn_dream h_inn_listens h_inn_name h_inn_nameSort h_inn_nameNumber v_thrown v_trouble v_where v_read v_taped v_size v_at v_sort v_place v_sign v_number v_fault v_wrongAt v_word v_marks v_notes x230_w v_inn_minutes v_inn_rooms v_inn_doors v_inn_things v_inn_dreams v_inn_sleepers v_inn_listeners v_inn_names v_inn_doorA v_from_19 v_inn_doorB v_inn_falls v_inn_creak v_inn_listens v_far v_inn_isCold v_inn_isTold v_inn_met) 230 [] := by
          intro x230_w hf H locs ls hl hP hD hS
          rw [ej230] at hf
          replace hf := un1_s hf
          refine lv_aload_n (pc := 230) hx hb dX12_goes_230 rfl (lv_at hl 0 rfl) ?_
          refine lv_iload (pc := 231) hx hb dX12_goes_231 (lv_at hl 2 rfl) ?_
          obtain ⟨v_w_233, hc_233, hf⟩ := bd1 hf
          refine r_dalVv (pc := 233) (ws' := (wX12_goes E h h_inn h_tape h_far h_from h_real h_other h_kept h_set h_w h_book h_noteSort h_whose h_what h_noteIs h_fitting h_dawn h_likes h_walked h_came h_inn_creak h_inn_doorA h_inn_doorB h_inn_how h_inn_lies h_inn_isCold h_inn_falls h_inn_isFull h_inn_isTold h_inn_act h_inn_what h_inn_then h_inn_met h_inn_bed h_inn_dream h_inn_listens h_inn_name h_inn_nameSort h_inn_nameNumber v_thrown v_trouble v_where v_read v_taped v_size v_at v_sort v_place v_sign v_number v_fault v_wrongAt v_word v_marks v_notes v_w_233 v_inn_minutes v_inn_rooms v_inn_doors v_inn_things v_inn_dreams v_inn_sleepers v_inn_listeners v_inn_names v_inn_doorA v_from_19 v_inn_doorB v_inn_falls v_inn_creak v_inn_listens v_far v_inn_isCold v_inn_isTold v_inn_met)) (As := [.int x126_5]) (rest := []) C (ctX12_creaksIn l E h h_inn h_tape h_far h_from h_real h_other h_kept h_set h_w h_book h_noteSort h_whose h_what h_noteIs h_fitting h_dawn h_likes h_walked h_came h_inn_creak h_inn_doorA h_inn_doorB h_inn_how h_inn_lies h_inn_isCold h_inn_falls h_inn_isFull h_inn_isTold h_inn_act h_inn_what h_inn_then h_inn_met h_inn_bed h_inn_dream h_inn_listens h_inn_name h_inn_nameSort h_inn_nameNumber v_thrown v_trouble v_where v_read v_taped v_size v_at v_sort v_place v_sign v_number v_fault v_wrongAt v_word v_marks v_notes v_inn_minutes v_inn_rooms v_inn_doors v_inn_things v_inn_dreams v_inn_sleepers v_inn_listeners v_inn_names v_inn_creak v_inn_listens v_far x230_w N x126_5 v_w_233 hc_233) ml_X12_394 ⟨Nat.le_of_ble_eq_true rfl, Nat.le_of_ble_eq_true rfl⟩ hP hD hS 0 rfl rfl rfl [0, 2, 7, 8, 9, 1] [13, 18, 14, 3, 4, 5, 6, 15, 16, 17, 10, 11, 12] 13 rfl rfl rfl rfl rfl rfl rfl hl.1 rfl (Nat.le_of_ble_eq_true rfl) ⟨Nat.zero_le _, Nat.zero_le _⟩ dX12_goes_233 ?_
          clear hP hD hS; intro H locs hP hD hS
          refine lv_aload_n (pc := 236) hx hb dX12_goes_236 rfl (lv_at hl 0 rfl) ?_
          refine r_get (pc := 237) C hP 0 rfl fl_X12_358 rfl dX12_goes_237 ?_
          refine r_get (pc := 240) C hP 2 rfl fl_X12_289 rfl dX12_goes_240 ?_
          refine lv_iload (pc := 243) hx hb dX12_goes_243 (lv_at hl 2 rfl) ?_
          obtain ⟨hi_245, hf⟩ := gd_s hf
          refine r_zald (pc := 245) C hP 10 rfl hi_245 dX12_goes_245 ?_
          refine lv_if_eq (pc := 246) (tgt := 260) hx hb dX12_goes_246 (by decide) (fun c_246 => ?_) (fun c_246 => ?_)
          · replace hf := it_t c_246 hf
            refine lv_iconst (pc := 260) (v := 0) hx hb dX12_goes_260 (by decide) ?_
            refine lv_istore (pc := 261) (lv' := [(7, .int 0), (0, .ref h), (1, .int p0), (5, .int x126_5)]) hx hb dX12_goes_261 hl (by decide) rfl (fun ls hl => ?_)
            refine lv_iconst (pc := 263) (v := 0) hx hb dX12_goes_263 (by decide) ?_
            refine lv_istore (pc := 264) (lv' := [(8, .int 0), (7, .int 0), (0, .ref h), (1, .int p0), (5, .int x126_5)]) hx hb dX12_goes_264 hl (by decide) rfl (fun ls hl => ?_)
            refine lpK hf (fun K330 eK330 hf => ?_)
            have hK330 : ∀ (x330_7 : Int32) (x330_w : Nat → Int32) , K330 (x330_7, x330_w) = some z → AT p l e (rmOf 2 45) s m args below meth c E A Q 0 0 9 [(0, .ref h), (1, .int p0), (7, .int x330_7)] (wX12_goes E h h_inn h_tape h_far h_from h_real h_other h_kept h_set h_w h_book h_noteSort h_whose h_what h_noteIs h_fitting h_dawn h_likes h_walked h_came h_inn_creak h_inn_doorA h_inn_doorB h_inn_how h_inn_lies h_inn_isCold h_inn_falls h_inn_isFull h_inn_isTold h_inn_act h_inn_what h_inn_then h_inn_met h_inn_bed h_inn_dream h_inn_listens h_inn_name h_inn_nameSort h_inn_nameNumber v_thrown v_trouble v_where v_read v_taped v_size v_at v_sort v_place v_sign v_number v_fault v_wrongAt v_word v_marks v_notes x330_w v_inn_minutes v_inn_rooms v_inn_doors v_inn_things v_inn_dreams v_inn_sleepers v_inn_listeners v_inn_names v_inn_doorA v_from_19 v_inn_doorB v_inn_falls v_inn_creak v_inn_listens v_far v_inn_isCold v_inn_isTold v_inn_met) 330 [] := by
              intro x330_7 x330_w hf H locs ls hl hP hD hS
              rw [eK330] at hf
              replace hf := un2_s hf
              refine lv_iload (pc := 330) hx hb dX12_goes_330 (lv_at hl 2 rfl) ?_
              refine lv_if_eq (pc := 332) (tgt := 340) hx hb dX12_goes_332 (by decide) (fun c_332 => ?_) (fun c_332 => ?_)
              · replace hf := it_t c_332 hf
                cases hf
                rw [hQ]
                exact r_vret C hr hP hD hS dX12_goes_340
              · replace hf := it_f c_332 hf
                refine lv_aload_n (pc := 335) hx hb dX12_goes_335 rfl (lv_at hl 0 rfl) ?_
                refine lv_iload_n (pc := 336) hx hb dX12_goes_336 rfl (lv_at hl 1 rfl) ?_
                obtain ⟨v_w_337, hc_337, hf⟩ := bd1 hf
                refine r_dalVv (pc := 337) (ws' := (wX12_goes E h h_inn h_tape h_far h_from h_real h_other h_kept h_set h_w h_book h_noteSort h_whose h_what h_noteIs h_fitting h_dawn h_likes h_walked h_came h_inn_creak h_inn_doorA h_inn_doorB h_inn_how h_inn_lies h_inn_isCold h_inn_falls h_inn_isFull h_inn_isTold h_inn_act h_inn_what h_inn_then h_inn_met h_inn_bed h_inn_dream h_inn_listens h_inn_name h_inn_nameSort h_inn_nameNumber v_thrown v_trouble v_where v_read v_taped v_size v_at v_sort v_place v_sign v_number v_fault v_wrongAt v_word v_marks v_notes v_w_337 v_inn_minutes v_inn_rooms v_inn_doors v_inn_things v_inn_dreams v_inn_sleepers v_inn_listeners v_inn_names v_inn_doorA v_from_19 v_inn_doorB v_inn_falls v_inn_creak v_inn_listens v_far v_inn_isCold v_inn_isTold v_inn_met)) (As := [.int p0]) (rest := []) C (ctX12_meets l E h h_inn h_tape h_far h_from h_real h_other h_kept h_set h_w h_book h_noteSort h_whose h_what h_noteIs h_fitting h_dawn h_likes h_walked h_came h_inn_creak h_inn_doorA h_inn_doorB h_inn_how h_inn_lies h_inn_isCold h_inn_falls h_inn_isFull h_inn_isTold h_inn_act h_inn_what h_inn_then h_inn_met h_inn_bed h_inn_dream h_inn_listens h_inn_name h_inn_nameSort h_inn_nameNumber v_thrown v_trouble v_where v_read v_taped v_size v_at v_sort v_place v_sign v_number v_fault v_wrongAt v_word v_marks v_notes x330_w v_inn_minutes v_inn_rooms v_inn_doors v_inn_things v_inn_dreams v_inn_sleepers v_inn_listeners v_inn_names v_inn_isTold v_inn_met N p0 v_w_337 hc_337) ml_X12_397 ⟨Nat.le_of_ble_eq_true rfl, Nat.le_of_ble_eq_true rfl⟩ hP hD hS 0 rfl rfl rfl [0, 1, 2, 11, 12] [13, 14, 15, 3, 4, 5, 6, 7, 8, 9, 10, 16, 17] 13 rfl rfl rfl rfl rfl rfl rfl hl.1 rfl (Nat.le_of_ble_eq_true rfl) ⟨Nat.zero_le _, Nat.zero_le _⟩ dX12_goes_337 ?_
                clear hP hD hS; intro H locs hP hD hS
                cases hf
                rw [hQ]
                exact r_vret C hr hP hD hS dX12_goes_340
            clear eK330
            have key266 : ∀ (n : Nat) (x266_7 : Int32) (x266_8 : Int32) (x266_w : Nat → Int32) , lp (BX12_goes_266 v_inn_sleepers p0 x126_5 N v_inn_isTold v_inn_met K330) n (x266_7, x266_8, x266_w) = some z → AT p l e (rmOf 2 45) s m args below meth c E A Q 0 0 9 [(0, .ref h), (1, .int p0), (5, .int x126_5), (7, .int x266_7), (8, .int x266_8)] (wX12_goes E h h_inn h_tape h_far h_from h_real h_other h_kept h_set h_w h_book h_noteSort h_whose h_what h_noteIs h_fitting h_dawn h_likes h_walked h_came h_inn_creak h_inn_doorA h_inn_doorB h_inn_how h_inn_lies h_inn_isCold h_inn_falls h_inn_isFull h_inn_isTold h_inn_act h_inn_what h_inn_then h_inn_met h_inn_bed h_inn_dream h_inn_listens h_inn_name h_inn_nameSort h_inn_nameNumber v_thrown v_trouble v_where v_read v_taped v_size v_at v_sort v_place v_sign v_number v_fault v_wrongAt v_word v_marks v_notes x266_w v_inn_minutes v_inn_rooms v_inn_doors v_inn_things v_inn_dreams v_inn_sleepers v_inn_listeners v_inn_names v_inn_doorA v_from_19 v_inn_doorB v_inn_falls v_inn_creak v_inn_listens v_far v_inn_isCold v_inn_isTold v_inn_met) 266 [] := by
              intro n
              induction n with
              | zero => intro x266_7 x266_8 x266_w hf; exact (lp_0 hf).elim
              | succ n ih266 =>
                intro x266_7 x266_8 x266_w hf H locs ls hl hP hD hS
                replace hf := lp_s hf
                generalize lp (BX12_goes_266 v_inn_sleepers p0 x126_5 N v_inn_isTold v_inn_met K330) n = rec266 at ih266 hf
                unfold BX12_goes_266 at hf
                replace hf := un3_s hf
                refine lv_iload (pc := 266) hx hb dX12_goes_266 (lv_at hl 4 rfl) ?_
                refine lv_aload_n (pc := 268) hx hb dX12_goes_268 rfl (lv_at hl 0 rfl) ?_
                refine r_get (pc := 269) C hP 0 rfl fl_X12_358 rfl dX12_goes_269 ?_
                refine r_get (pc := 272) C hP 2 rfl fl_X12_247 rfl dX12_goes_272 ?_
                refine lv_icmp_ge (pc := 275) (tgt := 330) hx hb dX12_goes_275 (by decide) (fun c_275 => ?_) (fun c_275 => ?_)
                · replace hf := it_t c_275 hf
                  exact hK330 x266_7 x266_w hf _ _ _ (lv_sub hl [0, 1, 3] rfl) hP hD hS
                · replace hf := it_f c_275 hf
                  refine lv_iload (pc := 278) hx hb dX12_goes_278 (lv_at hl 4 rfl) ?_
                  refine lv_iload_n (pc := 280) hx hb dX12_goes_280 rfl (lv_at hl 1 rfl) ?_
                  refine jnK hf (fun j324 ej324 hf => ?_)
                  have hj324 : ∀ (x324_7 : Int32) (x324_w : Nat → Int32) , j324 (x324_7, x324_w) = some z → AT p l e (rmOf 2 45) s m args below meth c E A Q 0 0 9 [(0, .ref h), (1, .int p0), (5, .int x126_5), (7, .int x324_7), (8, .int x266_8)] (wX12_goes E h h_inn h_tape h_far h_from h_real h_other h_kept h_set h_w h_book h_noteSort h_whose h_what h_noteIs h_fitting h_dawn h_likes h_walked h_came h_inn_creak h_inn_doorA h_inn_doorB h_inn_how h_inn_lies h_inn_isCold h_inn_falls h_inn_isFull h_inn_isTold h_inn_act h_inn_what h_inn_then h_inn_met h_inn_bed h_inn_dream h_inn_listens h_inn_name h_inn_nameSort h_inn_nameNumber v_thrown v_trouble v_where v_read v_taped v_size v_at v_sort v_place v_sign v_number v_fault v_wrongAt v_word v_marks v_notes x324_w v_inn_minutes v_inn_rooms v_inn_doors v_inn_things v_inn_dreams v_inn_sleepers v_inn_listeners v_inn_names v_inn_doorA v_from_19 v_inn_doorB v_inn_falls v_inn_creak v_inn_listens v_far v_inn_isCold v_inn_isTold v_inn_met) 324 [] := by
                    intro x324_7 x324_w hf H locs ls hl hP hD hS
                    rw [ej324] at hf
                    replace hf := un2_s hf
                    refine lv_iinc (pc := 324) (v := x266_8 + 1) (lv' := [(8, .int (x266_8 + 1)), (0, .ref h), (1, .int p0), (5, .int x126_5), (7, .int x324_7)]) hx hb dX12_goes_324 hl (k := 4) rfl rfl (by decide) rfl (fun ls hl => ?_)
                    refine lv_goto (pc := 327) (tgt := 266) hx hb dX12_goes_327 (by decide) ?_
                    exact ih266 x324_7 (x266_8 + 1) x324_w hf _ _ _ (lv_sub hl [1, 2, 3, 4, 0] rfl) hP hD hS
                  clear ej324
                  refine lv_icmp_eq (pc := 281) (tgt := 324) hx hb dX12_goes_281 (by decide) (fun c_281 => ?_) (fun c_281 => ?_)
                  · replace hf := it_t c_281 hf
                    exact hj324 x266_7 x266_w hf _ _ _ (lv_sub hl [0, 1, 2, 3, 4] rfl) hP hD hS
                  · replace hf := it_f c_281 hf
                    refine lv_aload_n (pc := 284) hx hb dX12_goes_284 rfl (lv_at hl 0 rfl) ?_
                    refine r_get (pc := 285) C hP 0 rfl fl_X12_36 rfl dX12_goes_285 ?_
                    refine lv_bipush (pc := 288) (v := 9) hx hb dX12_goes_288 (by decide) ?_
                    refine lv_iload (pc := 290) hx hb dX12_goes_290 (lv_at hl 4 rfl) ?_
                    refine lv_iadd (pc := 292) hx hb dX12_goes_292 ?_
                    obtain ⟨hi_293, hf⟩ := gd_s hf
                    refine r_iald (pc := 293) C hP 1 rfl hi_293 dX12_goes_293 ?_
                    refine lv_iconst (pc := 294) (v := 1) hx hb dX12_goes_294 (by decide) ?_
                    refine lv_icmp_eq (pc := 295) (tgt := 324) hx hb dX12_goes_295 (by decide) (fun c_295 => ?_) (fun c_295 => ?_)
                    · replace hf := it_t c_295 hf
                      exact hj324 x266_7 x266_w hf _ _ _ (lv_sub hl [0, 1, 2, 3, 4] rfl) hP hD hS
                    · replace hf := it_f c_295 hf
                      refine lv_aload_n (pc := 298) hx hb dX12_goes_298 rfl (lv_at hl 0 rfl) ?_
                      refine r_get (pc := 299) C hP 0 rfl fl_X12_36 rfl dX12_goes_299 ?_
                      refine lv_iconst (pc := 302) (v := 0) hx hb dX12_goes_302 (by decide) ?_
                      refine lv_iload (pc := 303) hx hb dX12_goes_303 (lv_at hl 4 rfl) ?_
                      refine lv_iadd (pc := 305) hx hb dX12_goes_305 ?_
                      obtain ⟨hi_306, hf⟩ := gd_s hf
                      refine r_iald (pc := 306) C hP 1 rfl hi_306 dX12_goes_306 ?_
                      refine lv_iload (pc := 307) hx hb dX12_goes_307 (lv_at hl 2 rfl) ?_
                      refine lv_icmp_eq (pc := 309) (tgt := 315) hx hb dX12_goes_309 (by decide) (fun c_309 => ?_) (fun c_309 => ?_)
                      · replace hf := it_t c_309 hf
                        refine lv_iconst (pc := 315) (v := 1) hx hb dX12_goes_315 (by decide) ?_
                        refine lv_istore (pc := 316) (lv' := [(7, .int 1), (0, .ref h), (1, .int p0), (5, .int x126_5), (8, .int x266_8)]) hx hb dX12_goes_316 hl (by decide) rfl (fun ls hl => ?_)
                        refine lv_aload_n (pc := 318) hx hb dX12_goes_318 rfl (lv_at hl 1 rfl) ?_
                        refine lv_iload (pc := 319) hx hb dX12_goes_319 (lv_at hl 4 rfl) ?_
                        obtain ⟨v_w_321, hc_321, hf⟩ := bd1 hf
                        refine r_dalVv (pc := 321) (ws' := (wX12_goes E h h_inn h_tape h_far h_from h_real h_other h_kept h_set h_w h_book h_noteSort h_whose h_what h_noteIs h_fitting h_dawn h_likes h_walked h_came h_inn_creak h_inn_doorA h_inn_doorB h_inn_how h_inn_lies h_inn_isCold h_inn_falls h_inn_isFull h_inn_isTold h_inn_act h_inn_what h_inn_then h_inn_met h_inn_bed h_inn_dream h_inn_listens h_inn_name h_inn_nameSort h_inn_nameNumber v_thrown v_trouble v_where v_read v_taped v_size v_at v_sort v_place v_sign v_number v_fault v_wrongAt v_word v_marks v_notes v_w_321 v_inn_minutes v_inn_rooms v_inn_doors v_inn_things v_inn_dreams v_inn_sleepers v_inn_listeners v_inn_names v_inn_doorA v_from_19 v_inn_doorB v_inn_falls v_inn_creak v_inn_listens v_far v_inn_isCold v_inn_isTold v_inn_met)) (As := [.int x266_8]) (rest := []) C (ctX12_meets l E h h_inn h_tape h_far h_from h_real h_other h_kept h_set h_w h_book h_noteSort h_whose h_what h_noteIs h_fitting h_dawn h_likes h_walked h_came h_inn_creak h_inn_doorA h_inn_doorB h_inn_how h_inn_lies h_inn_isCold h_inn_falls h_inn_isFull h_inn_isTold h_inn_act h_inn_what h_inn_then h_inn_met h_inn_bed h_inn_dream h_inn_listens h_inn_name h_inn_nameSort h_inn_nameNumber v_thrown v_trouble v_where v_read v_taped v_size v_at v_sort v_place v_sign v_number v_fault v_wrongAt v_word v_marks v_notes x266_w v_inn_minutes v_inn_rooms v_inn_doors v_inn_things v_inn_dreams v_inn_sleepers v_inn_listeners v_inn_names v_inn_isTold v_inn_met N x266_8 v_w_321 hc_321) ml_X12_397 ⟨Nat.le_of_ble_eq_true rfl, Nat.le_of_ble_eq_true rfl⟩ hP hD hS 0 rfl rfl rfl [0, 1, 2, 11, 12] [13, 14, 15, 3, 4, 5, 6, 7, 8, 9, 10, 16, 17] 13 rfl rfl rfl rfl rfl rfl rfl hl.1 rfl (Nat.le_of_ble_eq_true rfl) ⟨Nat.zero_le _, Nat.zero_le _⟩ dX12_goes_321 ?_
                        clear hP hD hS; intro H locs hP hD hS
                        exact hj324 1 v_w_321 hf _ _ _ (lv_sub hl [1, 2, 3, 0, 4] rfl) hP hD hS
                      · replace hf := it_f c_309 hf
                        refine lv_goto (pc := 312) (tgt := 324) hx hb dX12_goes_312 (by decide) ?_
                        exact hj324 x266_7 x266_w hf _ _ _ (lv_sub hl [0, 1, 2, 3, 4] rfl) hP hD hS
            exact key266 _ 0 0 v_w_233 hf _ _ _ (lv_sub hl [2, 3, 4, 1, 0] rfl) hP hD hS
          · replace hf := it_f c_246 hf
            refine lv_aload_n (pc := 249) hx hb dX12_goes_249 rfl (lv_at hl 0 rfl) ?_
            refine r_get (pc := 250) C hP 0 rfl fl_X12_36 rfl dX12_goes_250 ?_
            refine lv_bipush (pc := 253) (v := 9) hx hb dX12_goes_253 (by decide) ?_
            refine lv_iload_n (pc := 255) hx hb dX12_goes_255 rfl (lv_at hl 1 rfl) ?_
            refine lv_iadd (pc := 256) hx hb dX12_goes_256 ?_
            refine lv_iconst (pc := 257) (v := 1) hx hb dX12_goes_257 (by decide) ?_
            obtain ⟨hi_258, hf⟩ := gd_s hf
            refine r_iast (pc := 258) (ws' := (wX12_goes E h h_inn h_tape h_far h_from h_real h_other h_kept h_set h_w h_book h_noteSort h_whose h_what h_noteIs h_fitting h_dawn h_likes h_walked h_came h_inn_creak h_inn_doorA h_inn_doorB h_inn_how h_inn_lies h_inn_isCold h_inn_falls h_inn_isFull h_inn_isTold h_inn_act h_inn_what h_inn_then h_inn_met h_inn_bed h_inn_dream h_inn_listens h_inn_name h_inn_nameSort h_inn_nameNumber v_thrown v_trouble v_where v_read v_taped v_size v_at v_sort v_place v_sign v_number v_fault v_wrongAt v_word v_marks v_notes (upd v_w_233 (9 + p0).toNatClampNeg 1) v_inn_minutes v_inn_rooms v_inn_doors v_inn_things v_inn_dreams v_inn_sleepers v_inn_listeners v_inn_names v_inn_doorA v_from_19 v_inn_doorB v_inn_falls v_inn_creak v_inn_listens v_far v_inn_isCold v_inn_isTold v_inn_met)) C hP hD hS 1 rfl hi_258 rfl dX12_goes_258 ?_
            clear hP hD hS; intro H locs hP hD hS
            cases hf
            rw [hQ]
            exact r_vret C hr hP hD hS dX12_goes_259
        clear ej230
        refine lv_icmp_eq (pc := 208) (tgt := 230) hx hb dX12_goes_208 (by decide) (fun c_208 => ?_) (fun c_208 => ?_)
        · replace hf := it_t c_208 hf
          exact hj230 (upd (upd (upd v_w x172_s1.toNatClampNeg x172_s2) (33 + r_140).toNatClampNeg (((upd v_w x172_s1.toNatClampNeg x172_s2) (33 + r_140).toNatClampNeg) + 1)) (0 + p0).toNatClampNeg x126_5) hf _ _ _ (lv_sub hl [0, 1, 2] rfl) hP hD hS
        · replace hf := it_f c_208 hf
          refine lv_aload_n (pc := 211) hx hb dX12_goes_211 rfl (lv_at hl 0 rfl) ?_
          refine r_get (pc := 212) C hP 0 rfl fl_X12_36 rfl dX12_goes_212 ?_
          refine lv_bipush (pc := 215) (v := 15) hx hb dX12_goes_215 (by decide) ?_
          refine lv_aload_n (pc := 217) hx hb dX12_goes_217 rfl (lv_at hl 0 rfl) ?_
          refine r_get (pc := 218) C hP 0 rfl fl_X12_36 rfl dX12_goes_218 ?_
          refine lv_bipush (pc := 221) (v := 6) hx hb dX12_goes_221 (by decide) ?_
          refine lv_iload_n (pc := 223) hx hb dX12_goes_223 rfl (lv_at hl 1 rfl) ?_
          refine lv_iadd (pc := 224) hx hb dX12_goes_224 ?_
          obtain ⟨hi_225, hf⟩ := gd_s hf
          refine r_iald (pc := 225) C hP 1 rfl hi_225 dX12_goes_225 ?_
          refine lv_iadd (pc := 226) hx hb dX12_goes_226 ?_
          refine lv_iload (pc := 227) hx hb dX12_goes_227 (lv_at hl 2 rfl) ?_
          obtain ⟨hi_229, hf⟩ := gd_s hf
          refine r_iast (pc := 229) (ws' := (wX12_goes E h h_inn h_tape h_far h_from h_real h_other h_kept h_set h_w h_book h_noteSort h_whose h_what h_noteIs h_fitting h_dawn h_likes h_walked h_came h_inn_creak h_inn_doorA h_inn_doorB h_inn_how h_inn_lies h_inn_isCold h_inn_falls h_inn_isFull h_inn_isTold h_inn_act h_inn_what h_inn_then h_inn_met h_inn_bed h_inn_dream h_inn_listens h_inn_name h_inn_nameSort h_inn_nameNumber v_thrown v_trouble v_where v_read v_taped v_size v_at v_sort v_place v_sign v_number v_fault v_wrongAt v_word v_marks v_notes (upd (upd (upd (upd v_w x172_s1.toNatClampNeg x172_s2) (33 + r_140).toNatClampNeg (((upd v_w x172_s1.toNatClampNeg x172_s2) (33 + r_140).toNatClampNeg) + 1)) (0 + p0).toNatClampNeg x126_5) (15 + ((upd (upd (upd v_w x172_s1.toNatClampNeg x172_s2) (33 + r_140).toNatClampNeg (((upd v_w x172_s1.toNatClampNeg x172_s2) (33 + r_140).toNatClampNeg) + 1)) (0 + p0).toNatClampNeg x126_5) (6 + p0).toNatClampNeg)).toNatClampNeg x126_5) v_inn_minutes v_inn_rooms v_inn_doors v_inn_things v_inn_dreams v_inn_sleepers v_inn_listeners v_inn_names v_inn_doorA v_from_19 v_inn_doorB v_inn_falls v_inn_creak v_inn_listens v_far v_inn_isCold v_inn_isTold v_inn_met)) C hP hD hS 1 rfl hi_229 rfl dX12_goes_229 ?_
          clear hP hD hS; intro H locs hP hD hS
          exact hj230 (upd (upd (upd (upd v_w x172_s1.toNatClampNeg x172_s2) (33 + r_140).toNatClampNeg (((upd v_w x172_s1.toNatClampNeg x172_s2) (33 + r_140).toNatClampNeg) + 1)) (0 + p0).toNatClampNeg x126_5) (15 + ((upd (upd (upd v_w x172_s1.toNatClampNeg x172_s2) (33 + r_140).toNatClampNeg (((upd v_w x172_s1.toNatClampNeg x172_s2) (33 + r_140).toNatClampNeg) + 1)) (0 + p0).toNatClampNeg x126_5) (6 + p0).toNatClampNeg)).toNatClampNeg x126_5) hf _ _ _ (lv_sub hl [0, 1, 2] rfl) hP hD hS
      clear ej172
      refine lv_if_eq (pc := 164) (tgt := 171) hx hb dX12_goes_164 (by decide) (fun c_164 => ?_) (fun c_164 => ?_)
      · replace hf := it_t c_164 hf
        refine lv_iconst (pc := 171) (v := 0) hx hb dX12_goes_171 (by decide) ?_
        exact hj172 (23 + r_140) 0 hf _ _ _ (lv_sub hl [1, 2, 4, 0] rfl) hP hD hS
      · replace hf := it_f c_164 hf
        refine lv_iconst (pc := 167) (v := 1) hx hb dX12_goes_167 (by decide) ?_
        refine lv_goto (pc := 168) (tgt := 172) hx hb dX12_goes_168 (by decide) ?_
        exact hj172 (23 + r_140) 1 hf _ _ _ (lv_sub hl [1, 2, 4, 0] rfl) hP hD hS
    · replace hf := it_t c_129 hf
      cases hf
      rw [hQ]
      exact r_vret C hr hP hD hS dX12_goes_132
  clear eK126
  have key28 : ∀ (n : Nat) (x28_5 : Int32) (x28_6 : Int32) , lp (BX12_goes_28 v_inn_rooms N r_10 v_from_19 v_w p0 v_inn_doors v_inn_doorA v_inn_doorB K126) n (x28_5, x28_6) = some z → AT p l e (rmOf 2 45) s m args below meth c E A Q 0 0 9 [(0, .ref h), (1, .int p0), (3, .int (v_w (0 + p0).toNatClampNeg)), (4, .int r_10), (5, .int x28_5), (6, .int x28_6)] (wX12_goes E h h_inn h_tape h_far h_from h_real h_other h_kept h_set h_w h_book h_noteSort h_whose h_what h_noteIs h_fitting h_dawn h_likes h_walked h_came h_inn_creak h_inn_doorA h_inn_doorB h_inn_how h_inn_lies h_inn_isCold h_inn_falls h_inn_isFull h_inn_isTold h_inn_act h_inn_what h_inn_then h_inn_met h_inn_bed h_inn_dream h_inn_listens h_inn_name h_inn_nameSort h_inn_nameNumber v_thrown v_trouble v_where v_read v_taped v_size v_at v_sort v_place v_sign v_number v_fault v_wrongAt v_word v_marks v_notes v_w v_inn_minutes v_inn_rooms v_inn_doors v_inn_things v_inn_dreams v_inn_sleepers v_inn_listeners v_inn_names v_inn_doorA v_from_19 v_inn_doorB v_inn_falls v_inn_creak v_inn_listens v_far v_inn_isCold v_inn_isTold v_inn_met) 28 [] := by
    intro n
    induction n with
    | zero => intro x28_5 x28_6 hf; exact (lp_0 hf).elim
    | succ n ih28 =>
      intro x28_5 x28_6 hf H locs ls hl hP hD hS
      replace hf := lp_s hf
      generalize lp (BX12_goes_28 v_inn_rooms N r_10 v_from_19 v_w p0 v_inn_doors v_inn_doorA v_inn_doorB K126) n = rec28 at ih28 hf
      unfold BX12_goes_28 at hf
      replace hf := un2_s hf
      refine lv_iload (pc := 28) hx hb dX12_goes_28 (lv_at hl 5 rfl) ?_
      refine lv_aload_n (pc := 30) hx hb dX12_goes_30 rfl (lv_at hl 0 rfl) ?_
      refine r_get (pc := 31) C hP 0 rfl fl_X12_358 rfl dX12_goes_31 ?_
      refine r_get (pc := 34) C hP 2 rfl fl_X12_244 rfl dX12_goes_34 ?_
      refine lv_icmp_ge (pc := 37) (tgt := 126) hx hb dX12_goes_37 (by decide) (fun c_37 => ?_) (fun c_37 => ?_)
      · replace hf := it_t c_37 hf
        exact hK126 x28_5 hf _ _ _ (lv_sub hl [0, 1, 2, 4] rfl) hP hD hS
      · replace hf := it_f c_37 hf
        refine lv_iload (pc := 40) hx hb dX12_goes_40 (lv_at hl 5 rfl) ?_
        refine lv_iload_n (pc := 42) hx hb dX12_goes_42 rfl (lv_at hl 2 rfl) ?_
        refine jnK hf (fun j60 ej60 hf => ?_)
        have hj60 : ∀ (x60_s0 : Int32) , j60 x60_s0 = some z → AT p l e (rmOf 2 45) s m args below meth c E A Q 0 0 9 [(0, .ref h), (1, .int p0), (3, .int (v_w (0 + p0).toNatClampNeg)), (4, .int r_10), (5, .int x28_5), (6, .int x28_6)] (wX12_goes E h h_inn h_tape h_far h_from h_real h_other h_kept h_set h_w h_book h_noteSort h_whose h_what h_noteIs h_fitting h_dawn h_likes h_walked h_came h_inn_creak h_inn_doorA h_inn_doorB h_inn_how h_inn_lies h_inn_isCold h_inn_falls h_inn_isFull h_inn_isTold h_inn_act h_inn_what h_inn_then h_inn_met h_inn_bed h_inn_dream h_inn_listens h_inn_name h_inn_nameSort h_inn_nameNumber v_thrown v_trouble v_where v_read v_taped v_size v_at v_sort v_place v_sign v_number v_fault v_wrongAt v_word v_marks v_notes v_w v_inn_minutes v_inn_rooms v_inn_doors v_inn_things v_inn_dreams v_inn_sleepers v_inn_listeners v_inn_names v_inn_doorA v_from_19 v_inn_doorB v_inn_falls v_inn_creak v_inn_listens v_far v_inn_isCold v_inn_isTold v_inn_met) 60 [.int x60_s0] := by
          intro x60_s0 hf H locs ls hl hP hD hS
          rw [ej60] at hf
          replace hf := un1_s hf
          refine lv_istore (pc := 60) (lv' := [(7, .int x60_s0), (0, .ref h), (1, .int p0), (3, .int (v_w (0 + p0).toNatClampNeg)), (4, .int r_10), (5, .int x28_5), (6, .int x28_6)]) hx hb dX12_goes_60 hl (by decide) rfl (fun ls hl => ?_)
          refine lv_iload (pc := 62) hx hb dX12_goes_62 (lv_at hl 0 rfl) ?_
          refine lv_iconst (pc := 64) (v := (-1)) hx hb dX12_goes_64 (by decide) ?_
          refine jnK hf (fun j120 ej120 hf => ?_)
          have hj120 : ∀ (x120_5 : Int32) , j120 x120_5 = some z → AT p l e (rmOf 2 45) s m args below meth c E A Q 0 0 9 [(0, .ref h), (1, .int p0), (3, .int (v_w (0 + p0).toNatClampNeg)), (4, .int r_10), (5, .int x120_5), (6, .int x28_6)] (wX12_goes E h h_inn h_tape h_far h_from h_real h_other h_kept h_set h_w h_book h_noteSort h_whose h_what h_noteIs h_fitting h_dawn h_likes h_walked h_came h_inn_creak h_inn_doorA h_inn_doorB h_inn_how h_inn_lies h_inn_isCold h_inn_falls h_inn_isFull h_inn_isTold h_inn_act h_inn_what h_inn_then h_inn_met h_inn_bed h_inn_dream h_inn_listens h_inn_name h_inn_nameSort h_inn_nameNumber v_thrown v_trouble v_where v_read v_taped v_size v_at v_sort v_place v_sign v_number v_fault v_wrongAt v_word v_marks v_notes v_w v_inn_minutes v_inn_rooms v_inn_doors v_inn_things v_inn_dreams v_inn_sleepers v_inn_listeners v_inn_names v_inn_doorA v_from_19 v_inn_doorB v_inn_falls v_inn_creak v_inn_listens v_far v_inn_isCold v_inn_isTold v_inn_met) 120 [] := by
            intro x120_5 hf H locs ls hl hP hD hS
            rw [ej120] at hf
            replace hf := un1_s hf
            refine lv_iinc (pc := 120) (v := x28_6 + 1) (lv' := [(6, .int (x28_6 + 1)), (0, .ref h), (1, .int p0), (3, .int (v_w (0 + p0).toNatClampNeg)), (4, .int r_10), (5, .int x120_5)]) hx hb dX12_goes_120 hl (k := 5) rfl rfl (by decide) rfl (fun ls hl => ?_)
            refine lv_goto (pc := 123) (tgt := 28) hx hb dX12_goes_123 (by decide) ?_
            exact ih28 x120_5 (x28_6 + 1) hf _ _ _ (lv_sub hl [1, 2, 3, 4, 5, 0] rfl) hP hD hS
          clear ej120
          refine lv_icmp_eq (pc := 65) (tgt := 120) hx hb dX12_goes_65 (by decide) (fun c_65 => ?_) (fun c_65 => ?_)
          · replace hf := it_t c_65 hf
            exact hj120 x28_5 hf _ _ _ (lv_sub hl [1, 2, 3, 4, 5, 6] rfl) hP hD hS
          · replace hf := it_f c_65 hf
            refine lv_iload (pc := 68) hx hb dX12_goes_68 (lv_at hl 4 rfl) ?_
            refine lv_iload (pc := 70) hx hb dX12_goes_70 (lv_at hl 0 rfl) ?_
            obtain ⟨r_72, hc_72, hf⟩ := bd1 hf
            refine r_dalSi (pc := 72) (Cn := "") (h := 0) (ws' := (wX12_goes E h h_inn h_tape h_far h_from h_real h_other h_kept h_set h_w h_book h_noteSort h_whose h_what h_noteIs h_fitting h_dawn h_likes h_walked h_came h_inn_creak h_inn_doorA h_inn_doorB h_inn_how h_inn_lies h_inn_isCold h_inn_falls h_inn_isFull h_inn_isTold h_inn_act h_inn_what h_inn_then h_inn_met h_inn_bed h_inn_dream h_inn_listens h_inn_name h_inn_nameSort h_inn_nameNumber v_thrown v_trouble v_where v_read v_taped v_size v_at v_sort v_place v_sign v_number v_fault v_wrongAt v_word v_marks v_notes v_w v_inn_minutes v_inn_rooms v_inn_doors v_inn_things v_inn_dreams v_inn_sleepers v_inn_listeners v_inn_names v_inn_doorA v_from_19 v_inn_doorB v_inn_falls v_inn_creak v_inn_listens v_far v_inn_isCold v_inn_isTold v_inn_met)) (As := [.int r_10, .int x60_s0]) (rest := []) C (ctX12_has l E N r_10 x60_s0 r_72 hc_72) ml_X12_372 ⟨Nat.le_of_ble_eq_true rfl, Nat.le_of_ble_eq_true rfl⟩ hP hD hS [] [0, 1, 2, 3, 4, 5, 6, 7, 8, 9, 10, 11, 12] 13 rfl rfl rfl rfl rfl rfl rfl hl.1 rfl (Nat.le_of_ble_eq_true rfl) ⟨Nat.zero_le _, Nat.zero_le _⟩ dX12_goes_72 ?_
            clear hP hD hS; intro H locs hP hD hS
            refine lv_if_ne (pc := 75) (tgt := 120) hx hb dX12_goes_75 (by decide) (fun c_75 => ?_) (fun c_75 => ?_)
            · replace hf := it_f c_75 hf
              exact hj120 x28_5 hf _ _ _ (lv_sub hl [1, 2, 3, 4, 5, 6] rfl) hP hD hS
            · replace hf := it_t c_75 hf
              refine lv_aload_n (pc := 78) hx hb dX12_goes_78 rfl (lv_at hl 1 rfl) ?_
              refine r_get (pc := 79) C hP 0 rfl fl_X12_21 rfl dX12_goes_79 ?_
              refine lv_iload (pc := 82) hx hb dX12_goes_82 (lv_at hl 6 rfl) ?_
              obtain ⟨hi_84, hf⟩ := gd_s hf
              refine r_iald (pc := 84) C hP 4 rfl hi_84 dX12_goes_84 ?_
              refine lv_bipush (pc := 85) (v := 99) hx hb dX12_goes_85 (by decide) ?_
              refine lv_icmp_ne (pc := 87) (tgt := 93) hx hb dX12_goes_87 (by decide) (fun c_87 => ?_) (fun c_87 => ?_)
              · replace hf := it_f c_87 hf
                refine lv_iload (pc := 93) hx hb dX12_goes_93 (lv_at hl 5 rfl) ?_
                refine lv_iconst (pc := 95) (v := (-1)) hx hb dX12_goes_95 (by decide) ?_
                refine jnK hf (fun j116 ej116 hf => ?_)
                have hj116 : j116 () = some z → AT p l e (rmOf 2 45) s m args below meth c E A Q 0 0 9 [(0, .ref h), (1, .int p0), (3, .int (v_w (0 + p0).toNatClampNeg)), (4, .int r_10), (6, .int x28_6)] (wX12_goes E h h_inn h_tape h_far h_from h_real h_other h_kept h_set h_w h_book h_noteSort h_whose h_what h_noteIs h_fitting h_dawn h_likes h_walked h_came h_inn_creak h_inn_doorA h_inn_doorB h_inn_how h_inn_lies h_inn_isCold h_inn_falls h_inn_isFull h_inn_isTold h_inn_act h_inn_what h_inn_then h_inn_met h_inn_bed h_inn_dream h_inn_listens h_inn_name h_inn_nameSort h_inn_nameNumber v_thrown v_trouble v_where v_read v_taped v_size v_at v_sort v_place v_sign v_number v_fault v_wrongAt v_word v_marks v_notes v_w v_inn_minutes v_inn_rooms v_inn_doors v_inn_things v_inn_dreams v_inn_sleepers v_inn_listeners v_inn_names v_inn_doorA v_from_19 v_inn_doorB v_inn_falls v_inn_creak v_inn_listens v_far v_inn_isCold v_inn_isTold v_inn_met) 116 [] := by
                  intro  hf H locs ls hl hP hD hS
                  rw [ej116] at hf
                  replace hf := un0_s hf
                  refine lv_iload (pc := 116) hx hb dX12_goes_116 (lv_at hl 4 rfl) ?_
                  refine lv_istore (pc := 118) (lv' := [(5, .int x28_6), (0, .ref h), (1, .int p0), (3, .int (v_w (0 + p0).toNatClampNeg)), (4, .int r_10), (6, .int x28_6)]) hx hb dX12_goes_118 hl (by decide) rfl (fun ls hl => ?_)
                  exact hj120 x28_6 hf _ _ _ (lv_sub hl [1, 2, 3, 4, 0, 5] rfl) hP hD hS
                clear ej116
                refine lv_icmp_eq (pc := 96) (tgt := 116) hx hb dX12_goes_96 (by decide) (fun c_96 => ?_) (fun c_96 => ?_)
                · replace hf := it_t c_96 hf
                  exact hj116  hf _ _ _ (lv_sub hl [1, 2, 3, 4, 6] rfl) hP hD hS
                · replace hf := it_f c_96 hf
                  refine lv_aload_n (pc := 99) hx hb dX12_goes_99 rfl (lv_at hl 1 rfl) ?_
                  refine r_get (pc := 100) C hP 0 rfl fl_X12_21 rfl dX12_goes_100 ?_
                  refine lv_iload (pc := 103) hx hb dX12_goes_103 (lv_at hl 6 rfl) ?_
                  obtain ⟨hi_105, hf⟩ := gd_s hf
                  refine r_iald (pc := 105) C hP 4 rfl hi_105 dX12_goes_105 ?_
                  refine lv_aload_n (pc := 106) hx hb dX12_goes_106 rfl (lv_at hl 1 rfl) ?_
                  refine r_get (pc := 107) C hP 0 rfl fl_X12_21 rfl dX12_goes_107 ?_
                  refine lv_iload (pc := 110) hx hb dX12_goes_110 (lv_at hl 5 rfl) ?_
                  obtain ⟨hi_112, hf⟩ := gd_s hf
                  refine r_iald (pc := 112) C hP 4 rfl hi_112 dX12_goes_112 ?_
                  refine lv_icmp_ge (pc := 113) (tgt := 120) hx hb dX12_goes_113 (by decide) (fun c_113 => ?_) (fun c_113 => ?_)
                  · replace hf := it_t c_113 hf
                    exact hj120 x28_5 hf _ _ _ (lv_sub hl [1, 2, 3, 4, 5, 6] rfl) hP hD hS
                  · replace hf := it_f c_113 hf
                    exact hj116  hf _ _ _ (lv_sub hl [1, 2, 3, 4, 6] rfl) hP hD hS
              · replace hf := it_t c_87 hf
                refine lv_goto (pc := 90) (tgt := 120) hx hb dX12_goes_90 (by decide) ?_
                exact hj120 x28_5 hf _ _ _ (lv_sub hl [1, 2, 3, 4, 5, 6] rfl) hP hD hS
        clear ej60
        refine lv_icmp_ne (pc := 43) (tgt := 50) hx hb dX12_goes_43 (by decide) (fun c_43 => ?_) (fun c_43 => ?_)
        · replace hf := it_f c_43 hf
          refine lv_aload_n (pc := 50) hx hb dX12_goes_50 rfl (lv_at hl 0 rfl) ?_
          refine r_get (pc := 51) C hP 0 rfl fl_X12_358 rfl dX12_goes_51 ?_
          refine lv_iload_n (pc := 54) hx hb dX12_goes_54 rfl (lv_at hl 2 rfl) ?_
          refine lv_iload (pc := 55) hx hb dX12_goes_55 (lv_at hl 5 rfl) ?_
          obtain ⟨r_57, hc_57, hf⟩ := bd1 hf
          refine r_dalVi (pc := 57) (ws' := (wX12_goes E h h_inn h_tape h_far h_from h_real h_other h_kept h_set h_w h_book h_noteSort h_whose h_what h_noteIs h_fitting h_dawn h_likes h_walked h_came h_inn_creak h_inn_doorA h_inn_doorB h_inn_how h_inn_lies h_inn_isCold h_inn_falls h_inn_isFull h_inn_isTold h_inn_act h_inn_what h_inn_then h_inn_met h_inn_bed h_inn_dream h_inn_listens h_inn_name h_inn_nameSort h_inn_nameNumber v_thrown v_trouble v_where v_read v_taped v_size v_at v_sort v_place v_sign v_number v_fault v_wrongAt v_word v_marks v_notes v_w v_inn_minutes v_inn_rooms v_inn_doors v_inn_things v_inn_dreams v_inn_sleepers v_inn_listeners v_inn_names v_inn_doorA v_from_19 v_inn_doorB v_inn_falls v_inn_creak v_inn_listens v_far v_inn_isCold v_inn_isTold v_inn_met)) (As := [.int (v_w (0 + p0).toNatClampNeg), .int x28_6]) (rest := []) C (ctX11_between l E h_inn h_inn_creak h_inn_doorA h_inn_doorB h_inn_how h_inn_lies h_inn_isCold h_inn_falls h_inn_isFull h_inn_isTold h_inn_act h_inn_what h_inn_then h_inn_met h_inn_bed h_inn_dream h_inn_listens h_inn_name h_inn_nameSort h_inn_nameNumber v_inn_minutes v_inn_rooms v_inn_doors v_inn_things v_inn_dreams v_inn_sleepers v_inn_listeners v_inn_names v_inn_doorA v_inn_doorB N (v_w (0 + p0).toNatClampNeg) x28_6 r_57 hc_57) ml_X12_301 ⟨Nat.le_of_ble_eq_true rfl, Nat.le_of_ble_eq_true rfl⟩ hP hD hS 2 rfl rfl rfl [2, 3, 5] [0, 1, 13, 14, 4, 15, 6, 7, 8, 9, 10, 11, 12] 13 rfl rfl rfl rfl rfl rfl rfl hl.1 rfl (Nat.le_of_ble_eq_true rfl) ⟨Nat.zero_le _, Nat.zero_le _⟩ dX12_goes_57 ?_
          clear hP hD hS; intro H locs hP hD hS
          exact hj60 r_57 hf _ _ _ (lv_sub hl [0, 1, 2, 3, 4, 5] rfl) hP hD hS
        · replace hf := it_t c_43 hf
          refine lv_iconst (pc := 46) (v := (-1)) hx hb dX12_goes_46 (by decide) ?_
          refine lv_goto (pc := 47) (tgt := 60) hx hb dX12_goes_47 (by decide) ?_
          exact hj60 (-1) hf _ _ _ (lv_sub hl [0, 1, 2, 3, 4, 5] rfl) hP hD hS
  exact key28 _ (-1) 0 hf _ _ _ (lv_sub hl [4, 5, 3, 2, 1, 0] rfl) hP hD hS
def wX12_holder (E : EN) (h h_inn h_tape h_far h_from h_real h_other h_kept h_set h_w h_book h_noteSort h_whose h_what h_noteIs h_fitting h_dawn h_likes h_walked h_came h_inn_creak h_inn_doorA h_inn_doorB h_inn_how h_inn_lies h_inn_isCold h_inn_falls h_inn_isFull h_inn_isTold h_inn_act h_inn_what h_inn_then h_inn_met h_inn_bed h_inn_dream h_inn_listens h_inn_name h_inn_nameSort h_inn_nameNumber : Nat) (v_thrown : Int32) (v_trouble : Int32) (v_where : Int32) (v_read : Option Nat) (v_taped : Int32) (v_size : Int32) (v_at : Int32) (v_sort : Int32) (v_place : Int32) (v_sign : Int32) (v_number : Int32) (v_fault : Int32) (v_wrongAt : Int32) (v_word : Int64) (v_marks : Int32) (v_notes : Int32) (v_inn_minutes : Int32) (v_inn_rooms : Int32) (v_inn_doors : Int32) (v_inn_things : Int32) (v_inn_dreams : Int32) (v_inn_sleepers : Int32) (v_inn_listeners : Int32) (v_inn_names : Int32) (v_w : Nat → Int32) : va_W := [(h, .inr (11, [.int v_thrown, .int v_trouble, .int v_where, .ref h_inn, va_rf v_read, .ref h_tape, .int v_taped, .int v_size, .int v_at, .int v_sort, .int v_place, .int v_sign, .int v_number, .int v_fault, .int v_wrongAt, .long v_word, .ref h_far, .ref h_from, .ref h_real, .ref h_other, .ref h_kept, .ref h_set, .ref h_w, .int v_marks, .int v_notes, .ref h_book, .ref h_noteSort, .ref h_whose, .ref h_what, .ref h_noteIs, .ref h_fitting, .ref h_dawn, .ref h_likes, .ref h_walked, .ref h_came])), (h_inn, .inr (10, [.int v_inn_minutes, .int v_inn_rooms, .int v_inn_doors, .int v_inn_things, .int v_inn_dreams, .int v_inn_sleepers, .int v_inn_listeners, .int v_inn_names, .ref h_inn_creak, .ref h_inn_doorA, .ref h_inn_doorB, .ref h_inn_how, .ref h_inn_lies, .ref h_inn_isCold, .ref h_inn_falls, .ref h_inn_isFull, .ref h_inn_isTold, .ref h_inn_act, .ref h_inn_what, .ref h_inn_then, .ref h_inn_met, .ref h_inn_bed, .ref h_inn_dream, .ref h_inn_listens, .ref h_inn_name, .ref h_inn_nameSort, .ref h_inn_nameNumber])), (h_w, aI E 51 v_w)]
def BX12_holder_2 (v_inn_sleepers : Int32) (v_w : Nat → Int32) (p0 : Int32) (rec2 : (Int32) → Option Int32) : (Int32) → Option Int32 := un1 fun (x2_2 : Int32) => if v_inn_sleepers ≤ x2_2 then (some (-2)) else (gd (6 + x2_2) 51 (if (v_w (6 + x2_2).toNatClampNeg) = p0 then (some x2_2) else (rec2 (x2_2 + 1))))
def fX12_holder (N : Nat) (p0 : Int32) (v_inn_sleepers : Int32) (v_w : Nat → Int32) : Option Int32 := lp (BX12_holder_2 v_inn_sleepers v_w p0) N 0
set_option maxHeartbeats 4000000 in
set_option maxRecDepth 100000 in
theorem ctX12_holder (l : Launch) (E : EN) (h h_inn h_tape h_far h_from h_real h_other h_kept h_set h_w h_book h_noteSort h_whose h_what h_noteIs h_fitting h_dawn h_likes h_walked h_came h_inn_creak h_inn_doorA h_inn_doorB h_inn_how h_inn_lies h_inn_isCold h_inn_falls h_inn_isFull h_inn_isTold h_inn_act h_inn_what h_inn_then h_inn_met h_inn_bed h_inn_dream h_inn_listens h_inn_name h_inn_nameSort h_inn_nameNumber : Nat) (v_thrown : Int32) (v_trouble : Int32) (v_where : Int32) (v_read : Option Nat) (v_taped : Int32) (v_size : Int32) (v_at : Int32) (v_sort : Int32) (v_place : Int32) (v_sign : Int32) (v_number : Int32) (v_fault : Int32) (v_wrongAt : Int32) (v_word : Int64) (v_marks : Int32) (v_notes : Int32) (v_inn_minutes : Int32) (v_inn_rooms : Int32) (v_inn_doors : Int32) (v_inn_things : Int32) (v_inn_dreams : Int32) (v_inn_sleepers : Int32) (v_inn_listeners : Int32) (v_inn_names : Int32) (v_w : Nat → Int32) (N : Nat) (p0 : Int32) (z : Int32) (hf : fX12_holder N p0 v_inn_sleepers v_w = some z) : CTi l E yX12_holder cX12_holder 3 .int 0 0 [.ref h, .int p0] (wX12_holder E h h_inn h_tape h_far h_from h_real h_other h_kept h_set h_w h_book h_noteSort h_whose h_what h_noteIs h_fitting h_dawn h_likes h_walked h_came h_inn_creak h_inn_doorA h_inn_doorB h_inn_how h_inn_lies h_inn_isCold h_inn_falls h_inn_isFull h_inn_isTold h_inn_act h_inn_what h_inn_then h_inn_met h_inn_bed h_inn_dream h_inn_listens h_inn_name h_inn_nameSort h_inn_nameNumber v_thrown v_trouble v_where v_read v_taped v_size v_at v_sort v_place v_sign v_number v_fault v_wrongAt v_word v_marks v_notes v_inn_minutes v_inn_rooms v_inn_doors v_inn_things v_inn_dreams v_inn_sleepers v_inn_listeners v_inn_names v_w) (z) (wX12_holder E h h_inn h_tape h_far h_from h_real h_other h_kept h_set h_w h_book h_noteSort h_whose h_what h_noteIs h_fitting h_dawn h_likes h_walked h_came h_inn_creak h_inn_doorA h_inn_doorB h_inn_how h_inn_lies h_inn_isCold h_inn_falls h_inn_isFull h_inn_isTold h_inn_act h_inn_what h_inn_then h_inn_met h_inn_bed h_inn_dream h_inn_listens h_inn_name h_inn_nameSort h_inn_nameNumber v_thrown v_trouble v_where v_read v_taped v_size v_at v_sort v_place v_sign v_number v_fault v_wrongAt v_word v_marks v_notes v_inn_minutes v_inn_rooms v_inn_doors v_inn_things v_inn_dreams v_inn_sleepers v_inn_listeners v_inn_names v_w) := by
  intro sz
  refine ct_body (by decide) (Nat.le_of_ble_eq_true rfl) ?_
  intro p e s m args below meth c A ls hAe C hr hin hP hD hS hl
  have C : CX p s m args meth c cX12_holder RX12 3 E A := C
  have hl : lv_has ls 3 [(0, .ref h), (1, .int p0)] := hl
  have hx := C.1
  have hb := C.2.1
  rw [hAe]
  clear hAe
  obtain ⟨Q, hQ⟩ : ∃ Q, Q = MQ below (Qi E A (z) (wX12_holder E h h_inn h_tape h_far h_from h_real h_other h_kept h_set h_w h_book h_noteSort h_whose h_what h_noteIs h_fitting h_dawn h_likes h_walked h_came h_inn_creak h_inn_doorA h_inn_doorB h_inn_how h_inn_lies h_inn_isCold h_inn_falls h_inn_isFull h_inn_isTold h_inn_act h_inn_what h_inn_then h_inn_met h_inn_bed h_inn_dream h_inn_listens h_inn_name h_inn_nameSort h_inn_nameNumber v_thrown v_trouble v_where v_read v_taped v_size v_at v_sort v_place v_sign v_number v_fault v_wrongAt v_word v_marks v_notes v_inn_minutes v_inn_rooms v_inn_doors v_inn_things v_inn_dreams v_inn_sleepers v_inn_listeners v_inn_names v_w)) args s 0 0 A := ⟨_, rfl⟩
  rw [← hQ]
  unfold fX12_holder at hf
  refine lv_iconst (pc := 0) (v := 0) hx hb dX12_holder_0 (by decide) ?_
  refine lv_istore_n (pc := 1) (lv' := [(2, .int 0), (0, .ref h), (1, .int p0)]) hx hb dX12_holder_1 rfl hl (by decide) rfl (fun ls hl => ?_)
  have key2 : ∀ (n : Nat) (x2_2 : Int32) , lp (BX12_holder_2 v_inn_sleepers v_w p0) n x2_2 = some z → AT p l e (rmOf 0 0) s m args below meth c E A Q 0 0 3 [(0, .ref h), (1, .int p0), (2, .int x2_2)] (wX12_holder E h h_inn h_tape h_far h_from h_real h_other h_kept h_set h_w h_book h_noteSort h_whose h_what h_noteIs h_fitting h_dawn h_likes h_walked h_came h_inn_creak h_inn_doorA h_inn_doorB h_inn_how h_inn_lies h_inn_isCold h_inn_falls h_inn_isFull h_inn_isTold h_inn_act h_inn_what h_inn_then h_inn_met h_inn_bed h_inn_dream h_inn_listens h_inn_name h_inn_nameSort h_inn_nameNumber v_thrown v_trouble v_where v_read v_taped v_size v_at v_sort v_place v_sign v_number v_fault v_wrongAt v_word v_marks v_notes v_inn_minutes v_inn_rooms v_inn_doors v_inn_things v_inn_dreams v_inn_sleepers v_inn_listeners v_inn_names v_w) 2 [] := by
    intro n
    induction n with
    | zero => intro x2_2 hf; exact (lp_0 hf).elim
    | succ n ih2 =>
      intro x2_2 hf H locs ls hl hP hD hS
      replace hf := lp_s hf
      generalize lp (BX12_holder_2 v_inn_sleepers v_w p0) n = rec2 at ih2 hf
      unfold BX12_holder_2 at hf
      replace hf := un1_s hf
      refine lv_iload_n (pc := 2) hx hb dX12_holder_2 rfl (lv_at hl 2 rfl) ?_
      refine lv_aload_n (pc := 3) hx hb dX12_holder_3 rfl (lv_at hl 0 rfl) ?_
      refine r_get (pc := 4) C hP 0 rfl fl_X12_358 rfl dX12_holder_4 ?_
      refine r_get (pc := 7) C hP 1 rfl fl_X12_247 rfl dX12_holder_7 ?_
      refine lv_icmp_ge (pc := 10) (tgt := 34) hx hb dX12_holder_10 (by decide) (fun c_10 => ?_) (fun c_10 => ?_)
      · replace hf := it_t c_10 hf
        refine lv_bipush (pc := 34) (v := (-2)) hx hb dX12_holder_34 (by decide) ?_
        cases hf
        rw [hQ]
        exact r_iret C hr hP hD hS rfl dX12_holder_36
      · replace hf := it_f c_10 hf
        refine lv_aload_n (pc := 13) hx hb dX12_holder_13 rfl (lv_at hl 0 rfl) ?_
        refine r_get (pc := 14) C hP 0 rfl fl_X12_36 rfl dX12_holder_14 ?_
        refine lv_bipush (pc := 17) (v := 6) hx hb dX12_holder_17 (by decide) ?_
        refine lv_iload_n (pc := 19) hx hb dX12_holder_19 rfl (lv_at hl 2 rfl) ?_
        refine lv_iadd (pc := 20) hx hb dX12_holder_20 ?_
        obtain ⟨hi_21, hf⟩ := gd_s hf
        refine r_iald (pc := 21) C hP 2 rfl hi_21 dX12_holder_21 ?_
        refine lv_iload_n (pc := 22) hx hb dX12_holder_22 rfl (lv_at hl 1 rfl) ?_
        refine lv_icmp_ne (pc := 23) (tgt := 28) hx hb dX12_holder_23 (by decide) (fun c_23 => ?_) (fun c_23 => ?_)
        · replace hf := it_f c_23 hf
          refine lv_iinc (pc := 28) (v := x2_2 + 1) (lv' := [(2, .int (x2_2 + 1)), (0, .ref h), (1, .int p0)]) hx hb dX12_holder_28 hl (k := 2) rfl rfl (by decide) rfl (fun ls hl => ?_)
          refine lv_goto (pc := 31) (tgt := 2) hx hb dX12_holder_31 (by decide) ?_
          exact ih2 (x2_2 + 1) hf _ _ _ (lv_sub hl [1, 2, 0] rfl) hP hD hS
        · replace hf := it_t c_23 hf
          refine lv_iload_n (pc := 26) hx hb dX12_holder_26 rfl (lv_at hl 2 rfl) ?_
          cases hf
          rw [hQ]
          exact r_iret C hr hP hD hS rfl dX12_holder_27
  exact key2 _ 0 hf _ _ _ (lv_sub hl [1, 2, 0] rfl) hP hD hS
def wX12_does (E : EN) (h h_inn h_tape h_far h_from h_real h_other h_kept h_set h_w h_book h_noteSort h_whose h_what h_noteIs h_fitting h_dawn h_likes h_walked h_came h_inn_creak h_inn_doorA h_inn_doorB h_inn_how h_inn_lies h_inn_isCold h_inn_falls h_inn_isFull h_inn_isTold h_inn_act h_inn_what h_inn_then h_inn_met h_inn_bed h_inn_dream h_inn_listens h_inn_name h_inn_nameSort h_inn_nameNumber : Nat) (v_thrown : Int32) (v_trouble : Int32) (v_where : Int32) (v_read : Option Nat) (v_taped : Int32) (v_size : Int32) (v_at : Int32) (v_sort : Int32) (v_place : Int32) (v_sign : Int32) (v_number : Int32) (v_fault : Int32) (v_wrongAt : Int32) (v_word : Int64) (v_marks : Int32) (v_notes : Int32) (v_w : Nat → Int32) (v_inn_minutes : Int32) (v_inn_rooms : Int32) (v_inn_doors : Int32) (v_inn_things : Int32) (v_inn_dreams : Int32) (v_inn_sleepers : Int32) (v_inn_listeners : Int32) (v_inn_names : Int32) (v_inn_doorA : Nat → Int32) (v_inn_doorB : Nat → Int32) : va_W := [(h, .inr (11, [.int v_thrown, .int v_trouble, .int v_where, .ref h_inn, va_rf v_read, .ref h_tape, .int v_taped, .int v_size, .int v_at, .int v_sort, .int v_place, .int v_sign, .int v_number, .int v_fault, .int v_wrongAt, .long v_word, .ref h_far, .ref h_from, .ref h_real, .ref h_other, .ref h_kept, .ref h_set, .ref h_w, .int v_marks, .int v_notes, .ref h_book, .ref h_noteSort, .ref h_whose, .ref h_what, .ref h_noteIs, .ref h_fitting, .ref h_dawn, .ref h_likes, .ref h_walked, .ref h_came])), (h_w, aI E 51 v_w), (h_inn, .inr (10, [.int v_inn_minutes, .int v_inn_rooms, .int v_inn_doors, .int v_inn_things, .int v_inn_dreams, .int v_inn_sleepers, .int v_inn_listeners, .int v_inn_names, .ref h_inn_creak, .ref h_inn_doorA, .ref h_inn_doorB, .ref h_inn_how, .ref h_inn_lies, .ref h_inn_isCold, .ref h_inn_falls, .ref h_inn_isFull, .ref h_inn_isTold, .ref h_inn_act, .ref h_inn_what, .ref h_inn_then, .ref h_inn_met, .ref h_inn_bed, .ref h_inn_dream, .ref h_inn_listens, .ref h_inn_name, .ref h_inn_nameSort, .ref h_inn_nameNumber])), (h_inn_doorA, aI E 10 v_inn_doorA), (h_inn_doorB, aI E 10 v_inn_doorB)]
def fX12_does (N : Nat) (p0 : Int32) (p1 : Int32) (p2 : Int32) (v_w : Nat → Int32) (v_inn_doors : Int32) (v_inn_sleepers : Int32) (v_inn_doorA : Nat → Int32) (v_inn_doorB : Nat → Int32) : Option (Int32 × (Nat → Int32)) := gd (0 + p0) 51 (if p1 = 1 then (gd (15 + p2) 51 (if (v_w (15 + p2).toNatClampNeg) = (v_w (0 + p0).toNatClampNeg) then ((fX12_holder N p2 v_inn_sleepers v_w).bind (un1 fun (r_31 : Int32) => if r_31 = (-2) then (gd (6 + p0) 51 (if (v_w (6 + p0).toNatClampNeg) = (-2) then (gd (6 + p0) 51 (some (1, upd v_w (6 + p0).toNatClampNeg p2))) else (some (0, v_w)))) else (some (0, v_w)))) else (some (0, v_w)))) else (if p1 = 2 then (gd (6 + p0) 51 (jn (un1 fun (x91_s0 : Int32) => gd (6 + p0) 51 (zg x91_s0 (some (x91_s0, upd v_w (6 + p0).toNatClampNeg (-2))))) (fun j91 => if (v_w (6 + p0).toNatClampNeg) = (-2) then (j91 0) else (j91 1)))) else (if p1 = 3 then (gd (15 + p2) 51 (if (v_w (15 + p2).toNatClampNeg) = (v_w (0 + p0).toNatClampNeg) then (gd (19 + p2) 51 (if (v_w (19 + p2).toNatClampNeg) = 0 then (some (0, v_w)) else (gd (19 + p2) 51 (some (1, upd v_w (19 + p2).toNatClampNeg 0))))) else (some (0, v_w)))) else (if p1 = 4 then (some (1, v_w)) else (jn (un1 fun (x179_s0 : Int32) => if x179_s0 = (-1) then (some (0, v_w)) else (gd (23 + x179_s0) 51 (if (v_w (23 + x179_s0).toNatClampNeg) = 0 then (gd (23 + x179_s0) 51 (some (1, upd v_w (23 + x179_s0).toNatClampNeg 1))) else (some (0, v_w))))) (fun j179 => if (v_w (0 + p0).toNatClampNeg) = p2 then (j179 (-1)) else ((fX11_between N (v_w (0 + p0).toNatClampNeg) p2 v_inn_doors v_inn_doorA v_inn_doorB).bind (un1 fun (r_176 : Int32) => j179 r_176))))))))
set_option maxHeartbeats 4000000 in
set_option maxRecDepth 100000 in
theorem ctX12_does (l : Launch) (E : EN) (h h_inn h_tape h_far h_from h_real h_other h_kept h_set h_w h_book h_noteSort h_whose h_what h_noteIs h_fitting h_dawn h_likes h_walked h_came h_inn_creak h_inn_doorA h_inn_doorB h_inn_how h_inn_lies h_inn_isCold h_inn_falls h_inn_isFull h_inn_isTold h_inn_act h_inn_what h_inn_then h_inn_met h_inn_bed h_inn_dream h_inn_listens h_inn_name h_inn_nameSort h_inn_nameNumber : Nat) (v_thrown : Int32) (v_trouble : Int32) (v_where : Int32) (v_read : Option Nat) (v_taped : Int32) (v_size : Int32) (v_at : Int32) (v_sort : Int32) (v_place : Int32) (v_sign : Int32) (v_number : Int32) (v_fault : Int32) (v_wrongAt : Int32) (v_word : Int64) (v_marks : Int32) (v_notes : Int32) (v_w : Nat → Int32) (v_inn_minutes : Int32) (v_inn_rooms : Int32) (v_inn_doors : Int32) (v_inn_things : Int32) (v_inn_dreams : Int32) (v_inn_sleepers : Int32) (v_inn_listeners : Int32) (v_inn_names : Int32) (v_inn_doorA : Nat → Int32) (v_inn_doorB : Nat → Int32) (N : Nat) (p0 : Int32) (p1 : Int32) (p2 : Int32) (z : Int32 × (Nat → Int32)) (hf : fX12_does N p0 p1 p2 v_w v_inn_doors v_inn_sleepers v_inn_doorA v_inn_doorB = some z) : CTi l E yX12_does cX12_does 6 .boolean 1 23 [.ref h, .int p0, .int p1, .int p2] (wX12_does E h h_inn h_tape h_far h_from h_real h_other h_kept h_set h_w h_book h_noteSort h_whose h_what h_noteIs h_fitting h_dawn h_likes h_walked h_came h_inn_creak h_inn_doorA h_inn_doorB h_inn_how h_inn_lies h_inn_isCold h_inn_falls h_inn_isFull h_inn_isTold h_inn_act h_inn_what h_inn_then h_inn_met h_inn_bed h_inn_dream h_inn_listens h_inn_name h_inn_nameSort h_inn_nameNumber v_thrown v_trouble v_where v_read v_taped v_size v_at v_sort v_place v_sign v_number v_fault v_wrongAt v_word v_marks v_notes v_w v_inn_minutes v_inn_rooms v_inn_doors v_inn_things v_inn_dreams v_inn_sleepers v_inn_listeners v_inn_names v_inn_doorA v_inn_doorB) (z.1) (wX12_does E h h_inn h_tape h_far h_from h_real h_other h_kept h_set h_w h_book h_noteSort h_whose h_what h_noteIs h_fitting h_dawn h_likes h_walked h_came h_inn_creak h_inn_doorA h_inn_doorB h_inn_how h_inn_lies h_inn_isCold h_inn_falls h_inn_isFull h_inn_isTold h_inn_act h_inn_what h_inn_then h_inn_met h_inn_bed h_inn_dream h_inn_listens h_inn_name h_inn_nameSort h_inn_nameNumber v_thrown v_trouble v_where v_read v_taped v_size v_at v_sort v_place v_sign v_number v_fault v_wrongAt v_word v_marks v_notes z.2 v_inn_minutes v_inn_rooms v_inn_doors v_inn_things v_inn_dreams v_inn_sleepers v_inn_listeners v_inn_names v_inn_doorA v_inn_doorB) := by
  intro sz
  refine ct_body (by decide) (Nat.le_of_ble_eq_true rfl) ?_
  intro p e s m args below meth c A ls hAe C hr hin hP hD hS hl
  have C : CX p s m args meth c cX12_does RX12 6 E A := C
  have hl : lv_has ls 6 [(0, .ref h), (1, .int p0), (2, .int p1), (3, .int p2)] := hl
  have hx := C.1
  have hb := C.2.1
  rw [hAe]
  clear hAe
  obtain ⟨Q, hQ⟩ : ∃ Q, Q = MQ below (Qi E A (z.1) (wX12_does E h h_inn h_tape h_far h_from h_real h_other h_kept h_set h_w h_book h_noteSort h_whose h_what h_noteIs h_fitting h_dawn h_likes h_walked h_came h_inn_creak h_inn_doorA h_inn_doorB h_inn_how h_inn_lies h_inn_isCold h_inn_falls h_inn_isFull h_inn_isTold h_inn_act h_inn_what h_inn_then h_inn_met h_inn_bed h_inn_dream h_inn_listens h_inn_name h_inn_nameSort h_inn_nameNumber v_thrown v_trouble v_where v_read v_taped v_size v_at v_sort v_place v_sign v_number v_fault v_wrongAt v_word v_marks v_notes z.2 v_inn_minutes v_inn_rooms v_inn_doors v_inn_things v_inn_dreams v_inn_sleepers v_inn_listeners v_inn_names v_inn_doorA v_inn_doorB)) args s 0 0 A := ⟨_, rfl⟩
  rw [← hQ]
  unfold fX12_does at hf
  refine lv_aload_n (pc := 0) hx hb dX12_does_0 rfl (lv_at hl 0 rfl) ?_
  refine r_get (pc := 1) C hP 0 rfl fl_X12_36 rfl dX12_does_1 ?_
  refine lv_iconst (pc := 4) (v := 0) hx hb dX12_does_4 (by decide) ?_
  refine lv_iload_n (pc := 5) hx hb dX12_does_5 rfl (lv_at hl 1 rfl) ?_
  refine lv_iadd (pc := 6) hx hb dX12_does_6 ?_
  obtain ⟨hi_7, hf⟩ := gd_s hf
  refine r_iald (pc := 7) C hP 1 rfl hi_7 dX12_does_7 ?_
  refine lv_istore (pc := 8) (lv' := [(4, .int (v_w (0 + p0).toNatClampNeg)), (0, .ref h), (1, .int p0), (2, .int p1), (3, .int p2)]) hx hb dX12_does_8 hl (by decide) rfl (fun ls hl => ?_)
  refine lv_iload_n (pc := 10) hx hb dX12_does_10 rfl (lv_at hl 3 rfl) ?_
  refine lv_iconst (pc := 11) (v := 1) hx hb dX12_does_11 (by decide) ?_
  refine lv_icmp_ne (pc := 12) (tgt := 67) hx hb dX12_does_12 (by decide) (fun c_12 => ?_) (fun c_12 => ?_)
  · replace hf := it_f c_12 hf
    refine lv_iload_n (pc := 67) hx hb dX12_does_67 rfl (lv_at hl 3 rfl) ?_
    refine lv_iconst (pc := 68) (v := 2) hx hb dX12_does_68 (by decide) ?_
    refine lv_icmp_ne (pc := 69) (tgt := 107) hx hb dX12_does_69 (by decide) (fun c_69 => ?_) (fun c_69 => ?_)
    · replace hf := it_f c_69 hf
      refine lv_iload_n (pc := 107) hx hb dX12_does_107 rfl (lv_at hl 3 rfl) ?_
      refine lv_iconst (pc := 108) (v := 3) hx hb dX12_does_108 (by decide) ?_
      refine lv_icmp_ne (pc := 109) (tgt := 152) hx hb dX12_does_109 (by decide) (fun c_109 => ?_) (fun c_109 => ?_)
      · replace hf := it_f c_109 hf
        refine lv_iload_n (pc := 152) hx hb dX12_does_152 rfl (lv_at hl 3 rfl) ?_
        refine lv_iconst (pc := 153) (v := 4) hx hb dX12_does_153 (by decide) ?_
        refine lv_icmp_ne (pc := 154) (tgt := 159) hx hb dX12_does_154 (by decide) (fun c_154 => ?_) (fun c_154 => ?_)
        · replace hf := it_f c_154 hf
          refine lv_iload (pc := 159) hx hb dX12_does_159 (lv_at hl 0 rfl) ?_
          refine lv_iload_n (pc := 161) hx hb dX12_does_161 rfl (lv_at hl 4 rfl) ?_
          refine jnK hf (fun j179 ej179 hf => ?_)
          have hj179 : ∀ (x179_s0 : Int32) , j179 x179_s0 = some z → AT p l e (rmOf 1 23) s m args below meth c E A Q 0 0 6 [(0, .ref h)] (wX12_does E h h_inn h_tape h_far h_from h_real h_other h_kept h_set h_w h_book h_noteSort h_whose h_what h_noteIs h_fitting h_dawn h_likes h_walked h_came h_inn_creak h_inn_doorA h_inn_doorB h_inn_how h_inn_lies h_inn_isCold h_inn_falls h_inn_isFull h_inn_isTold h_inn_act h_inn_what h_inn_then h_inn_met h_inn_bed h_inn_dream h_inn_listens h_inn_name h_inn_nameSort h_inn_nameNumber v_thrown v_trouble v_where v_read v_taped v_size v_at v_sort v_place v_sign v_number v_fault v_wrongAt v_word v_marks v_notes v_w v_inn_minutes v_inn_rooms v_inn_doors v_inn_things v_inn_dreams v_inn_sleepers v_inn_listeners v_inn_names v_inn_doorA v_inn_doorB) 179 [.int x179_s0] := by
            intro x179_s0 hf H locs ls hl hP hD hS
            rw [ej179] at hf
            replace hf := un1_s hf
            refine lv_istore (pc := 179) (lv' := [(5, .int x179_s0), (0, .ref h)]) hx hb dX12_does_179 hl (by decide) rfl (fun ls hl => ?_)
            refine lv_iload (pc := 181) hx hb dX12_does_181 (lv_at hl 0 rfl) ?_
            refine lv_iconst (pc := 183) (v := (-1)) hx hb dX12_does_183 (by decide) ?_
            refine lv_icmp_eq (pc := 184) (tgt := 200) hx hb dX12_does_184 (by decide) (fun c_184 => ?_) (fun c_184 => ?_)
            · replace hf := it_t c_184 hf
              refine lv_iconst (pc := 200) (v := 0) hx hb dX12_does_200 (by decide) ?_
              cases hf
              rw [hQ]
              exact r_zret C hr hP hD hS (Or.inl rfl) rfl dX12_does_201
            · replace hf := it_f c_184 hf
              refine lv_aload_n (pc := 187) hx hb dX12_does_187 rfl (lv_at hl 1 rfl) ?_
              refine r_get (pc := 188) C hP 0 rfl fl_X12_36 rfl dX12_does_188 ?_
              refine lv_bipush (pc := 191) (v := 23) hx hb dX12_does_191 (by decide) ?_
              refine lv_iload (pc := 193) hx hb dX12_does_193 (lv_at hl 0 rfl) ?_
              refine lv_iadd (pc := 195) hx hb dX12_does_195 ?_
              obtain ⟨hi_196, hf⟩ := gd_s hf
              refine r_iald (pc := 196) C hP 1 rfl hi_196 dX12_does_196 ?_
              refine lv_if_eq (pc := 197) (tgt := 202) hx hb dX12_does_197 (by decide) (fun c_197 => ?_) (fun c_197 => ?_)
              · replace hf := it_t c_197 hf
                refine lv_aload_n (pc := 202) hx hb dX12_does_202 rfl (lv_at hl 1 rfl) ?_
                refine r_get (pc := 203) C hP 0 rfl fl_X12_36 rfl dX12_does_203 ?_
                refine lv_bipush (pc := 206) (v := 23) hx hb dX12_does_206 (by decide) ?_
                refine lv_iload (pc := 208) hx hb dX12_does_208 (lv_at hl 0 rfl) ?_
                refine lv_iadd (pc := 210) hx hb dX12_does_210 ?_
                refine lv_iconst (pc := 211) (v := 1) hx hb dX12_does_211 (by decide) ?_
                obtain ⟨hi_212, hf⟩ := gd_s hf
                refine r_iast (pc := 212) (ws' := (wX12_does E h h_inn h_tape h_far h_from h_real h_other h_kept h_set h_w h_book h_noteSort h_whose h_what h_noteIs h_fitting h_dawn h_likes h_walked h_came h_inn_creak h_inn_doorA h_inn_doorB h_inn_how h_inn_lies h_inn_isCold h_inn_falls h_inn_isFull h_inn_isTold h_inn_act h_inn_what h_inn_then h_inn_met h_inn_bed h_inn_dream h_inn_listens h_inn_name h_inn_nameSort h_inn_nameNumber v_thrown v_trouble v_where v_read v_taped v_size v_at v_sort v_place v_sign v_number v_fault v_wrongAt v_word v_marks v_notes (upd v_w (23 + x179_s0).toNatClampNeg 1) v_inn_minutes v_inn_rooms v_inn_doors v_inn_things v_inn_dreams v_inn_sleepers v_inn_listeners v_inn_names v_inn_doorA v_inn_doorB)) C hP hD hS 1 rfl hi_212 rfl dX12_does_212 ?_
                clear hP hD hS; intro H locs hP hD hS
                refine lv_iconst (pc := 213) (v := 1) hx hb dX12_does_213 (by decide) ?_
                cases hf
                rw [hQ]
                exact r_zret C hr hP hD hS (Or.inr rfl) rfl dX12_does_214
              · replace hf := it_f c_197 hf
                refine lv_iconst (pc := 200) (v := 0) hx hb dX12_does_200 (by decide) ?_
                cases hf
                rw [hQ]
                exact r_zret C hr hP hD hS (Or.inl rfl) rfl dX12_does_201
          clear ej179
          refine lv_icmp_ne (pc := 162) (tgt := 169) hx hb dX12_does_162 (by decide) (fun c_162 => ?_) (fun c_162 => ?_)
          · replace hf := it_f c_162 hf
            refine lv_aload_n (pc := 169) hx hb dX12_does_169 rfl (lv_at hl 1 rfl) ?_
            refine r_get (pc := 170) C hP 0 rfl fl_X12_358 rfl dX12_does_170 ?_
            refine lv_iload (pc := 173) hx hb dX12_does_173 (lv_at hl 0 rfl) ?_
            refine lv_iload_n (pc := 175) hx hb dX12_does_175 rfl (lv_at hl 4 rfl) ?_
            obtain ⟨r_176, hc_176, hf⟩ := bd1 hf
            refine r_dalVi (pc := 176) (ws' := (wX12_does E h h_inn h_tape h_far h_from h_real h_other h_kept h_set h_w h_book h_noteSort h_whose h_what h_noteIs h_fitting h_dawn h_likes h_walked h_came h_inn_creak h_inn_doorA h_inn_doorB h_inn_how h_inn_lies h_inn_isCold h_inn_falls h_inn_isFull h_inn_isTold h_inn_act h_inn_what h_inn_then h_inn_met h_inn_bed h_inn_dream h_inn_listens h_inn_name h_inn_nameSort h_inn_nameNumber v_thrown v_trouble v_where v_read v_taped v_size v_at v_sort v_place v_sign v_number v_fault v_wrongAt v_word v_marks v_notes v_w v_inn_minutes v_inn_rooms v_inn_doors v_inn_things v_inn_dreams v_inn_sleepers v_inn_listeners v_inn_names v_inn_doorA v_inn_doorB)) (As := [.int (v_w (0 + p0).toNatClampNeg), .int p2]) (rest := []) C (ctX11_between l E h_inn h_inn_creak h_inn_doorA h_inn_doorB h_inn_how h_inn_lies h_inn_isCold h_inn_falls h_inn_isFull h_inn_isTold h_inn_act h_inn_what h_inn_then h_inn_met h_inn_bed h_inn_dream h_inn_listens h_inn_name h_inn_nameSort h_inn_nameNumber v_inn_minutes v_inn_rooms v_inn_doors v_inn_things v_inn_dreams v_inn_sleepers v_inn_listeners v_inn_names v_inn_doorA v_inn_doorB N (v_w (0 + p0).toNatClampNeg) p2 r_176 hc_176) ml_X12_301 ⟨Nat.le_of_ble_eq_true rfl, Nat.le_of_ble_eq_true rfl⟩ hP hD hS 2 rfl rfl rfl [2, 3, 4] [0, 1, 5, 6, 7] 5 rfl rfl rfl rfl rfl rfl rfl hl.1 rfl (Nat.le_of_ble_eq_true rfl) ⟨Nat.zero_le _, Nat.zero_le _⟩ dX12_does_176 ?_
            clear hP hD hS; intro H locs hP hD hS
            exact hj179 r_176 hf _ _ _ (lv_sub hl [1] rfl) hP hD hS
          · replace hf := it_t c_162 hf
            refine lv_iconst (pc := 165) (v := (-1)) hx hb dX12_does_165 (by decide) ?_
            refine lv_goto (pc := 166) (tgt := 179) hx hb dX12_does_166 (by decide) ?_
            exact hj179 (-1) hf _ _ _ (lv_sub hl [1] rfl) hP hD hS
        · replace hf := it_t c_154 hf
          refine lv_iconst (pc := 157) (v := 1) hx hb dX12_does_157 (by decide) ?_
          cases hf
          rw [hQ]
          exact r_zret C hr hP hD hS (Or.inr rfl) rfl dX12_does_158
      · replace hf := it_t c_109 hf
        refine lv_aload_n (pc := 112) hx hb dX12_does_112 rfl (lv_at hl 1 rfl) ?_
        refine r_get (pc := 113) C hP 0 rfl fl_X12_36 rfl dX12_does_113 ?_
        refine lv_bipush (pc := 116) (v := 15) hx hb dX12_does_116 (by decide) ?_
        refine lv_iload_n (pc := 118) hx hb dX12_does_118 rfl (lv_at hl 4 rfl) ?_
        refine lv_iadd (pc := 119) hx hb dX12_does_119 ?_
        obtain ⟨hi_120, hf⟩ := gd_s hf
        refine r_iald (pc := 120) C hP 1 rfl hi_120 dX12_does_120 ?_
        refine lv_iload (pc := 121) hx hb dX12_does_121 (lv_at hl 0 rfl) ?_
        refine lv_icmp_ne (pc := 123) (tgt := 138) hx hb dX12_does_123 (by decide) (fun c_123 => ?_) (fun c_123 => ?_)
        · replace hf := it_f c_123 hf
          refine lv_iconst (pc := 138) (v := 0) hx hb dX12_does_138 (by decide) ?_
          cases hf
          rw [hQ]
          exact r_zret C hr hP hD hS (Or.inl rfl) rfl dX12_does_139
        · replace hf := it_t c_123 hf
          refine lv_aload_n (pc := 126) hx hb dX12_does_126 rfl (lv_at hl 1 rfl) ?_
          refine r_get (pc := 127) C hP 0 rfl fl_X12_36 rfl dX12_does_127 ?_
          refine lv_bipush (pc := 130) (v := 19) hx hb dX12_does_130 (by decide) ?_
          refine lv_iload_n (pc := 132) hx hb dX12_does_132 rfl (lv_at hl 4 rfl) ?_
          refine lv_iadd (pc := 133) hx hb dX12_does_133 ?_
          obtain ⟨hi_134, hf⟩ := gd_s hf
          refine r_iald (pc := 134) C hP 1 rfl hi_134 dX12_does_134 ?_
          refine lv_if_ne (pc := 135) (tgt := 140) hx hb dX12_does_135 (by decide) (fun c_135 => ?_) (fun c_135 => ?_)
          · replace hf := it_f c_135 hf
            refine lv_aload_n (pc := 140) hx hb dX12_does_140 rfl (lv_at hl 1 rfl) ?_
            refine r_get (pc := 141) C hP 0 rfl fl_X12_36 rfl dX12_does_141 ?_
            refine lv_bipush (pc := 144) (v := 19) hx hb dX12_does_144 (by decide) ?_
            refine lv_iload_n (pc := 146) hx hb dX12_does_146 rfl (lv_at hl 4 rfl) ?_
            refine lv_iadd (pc := 147) hx hb dX12_does_147 ?_
            refine lv_iconst (pc := 148) (v := 0) hx hb dX12_does_148 (by decide) ?_
            obtain ⟨hi_149, hf⟩ := gd_s hf
            refine r_iast (pc := 149) (ws' := (wX12_does E h h_inn h_tape h_far h_from h_real h_other h_kept h_set h_w h_book h_noteSort h_whose h_what h_noteIs h_fitting h_dawn h_likes h_walked h_came h_inn_creak h_inn_doorA h_inn_doorB h_inn_how h_inn_lies h_inn_isCold h_inn_falls h_inn_isFull h_inn_isTold h_inn_act h_inn_what h_inn_then h_inn_met h_inn_bed h_inn_dream h_inn_listens h_inn_name h_inn_nameSort h_inn_nameNumber v_thrown v_trouble v_where v_read v_taped v_size v_at v_sort v_place v_sign v_number v_fault v_wrongAt v_word v_marks v_notes (upd v_w (19 + p2).toNatClampNeg 0) v_inn_minutes v_inn_rooms v_inn_doors v_inn_things v_inn_dreams v_inn_sleepers v_inn_listeners v_inn_names v_inn_doorA v_inn_doorB)) C hP hD hS 1 rfl hi_149 rfl dX12_does_149 ?_
            clear hP hD hS; intro H locs hP hD hS
            refine lv_iconst (pc := 150) (v := 1) hx hb dX12_does_150 (by decide) ?_
            cases hf
            rw [hQ]
            exact r_zret C hr hP hD hS (Or.inr rfl) rfl dX12_does_151
          · replace hf := it_t c_135 hf
            refine lv_iconst (pc := 138) (v := 0) hx hb dX12_does_138 (by decide) ?_
            cases hf
            rw [hQ]
            exact r_zret C hr hP hD hS (Or.inl rfl) rfl dX12_does_139
    · replace hf := it_t c_69 hf
      refine lv_aload_n (pc := 72) hx hb dX12_does_72 rfl (lv_at hl 1 rfl) ?_
      refine r_get (pc := 73) C hP 0 rfl fl_X12_36 rfl dX12_does_73 ?_
      refine lv_bipush (pc := 76) (v := 6) hx hb dX12_does_76 (by decide) ?_
      refine lv_iload_n (pc := 78) hx hb dX12_does_78 rfl (lv_at hl 2 rfl) ?_
      refine lv_iadd (pc := 79) hx hb dX12_does_79 ?_
      obtain ⟨hi_80, hf⟩ := gd_s hf
      refine r_iald (pc := 80) C hP 1 rfl hi_80 dX12_does_80 ?_
      refine lv_bipush (pc := 81) (v := (-2)) hx hb dX12_does_81 (by decide) ?_
      refine jnK hf (fun j91 ej91 hf => ?_)
      have hj91 : ∀ (x91_s0 : Int32) , j91 x91_s0 = some z → AT p l e (rmOf 1 23) s m args below meth c E A Q 0 0 6 [(0, .ref h), (1, .int p0)] (wX12_does E h h_inn h_tape h_far h_from h_real h_other h_kept h_set h_w h_book h_noteSort h_whose h_what h_noteIs h_fitting h_dawn h_likes h_walked h_came h_inn_creak h_inn_doorA h_inn_doorB h_inn_how h_inn_lies h_inn_isCold h_inn_falls h_inn_isFull h_inn_isTold h_inn_act h_inn_what h_inn_then h_inn_met h_inn_bed h_inn_dream h_inn_listens h_inn_name h_inn_nameSort h_inn_nameNumber v_thrown v_trouble v_where v_read v_taped v_size v_at v_sort v_place v_sign v_number v_fault v_wrongAt v_word v_marks v_notes v_w v_inn_minutes v_inn_rooms v_inn_doors v_inn_things v_inn_dreams v_inn_sleepers v_inn_listeners v_inn_names v_inn_doorA v_inn_doorB) 91 [.int x91_s0] := by
        intro x91_s0 hf H locs ls hl hP hD hS
        rw [ej91] at hf
        replace hf := un1_s hf
        refine lv_istore (pc := 91) (lv' := [(5, .int x91_s0), (0, .ref h), (1, .int p0)]) hx hb dX12_does_91 hl (by decide) rfl (fun ls hl => ?_)
        refine lv_aload_n (pc := 93) hx hb dX12_does_93 rfl (lv_at hl 1 rfl) ?_
        refine r_get (pc := 94) C hP 0 rfl fl_X12_36 rfl dX12_does_94 ?_
        refine lv_bipush (pc := 97) (v := 6) hx hb dX12_does_97 (by decide) ?_
        refine lv_iload_n (pc := 99) hx hb dX12_does_99 rfl (lv_at hl 2 rfl) ?_
        refine lv_iadd (pc := 100) hx hb dX12_does_100 ?_
        refine lv_bipush (pc := 101) (v := (-2)) hx hb dX12_does_101 (by decide) ?_
        obtain ⟨hi_103, hf⟩ := gd_s hf
        refine r_iast (pc := 103) (ws' := (wX12_does E h h_inn h_tape h_far h_from h_real h_other h_kept h_set h_w h_book h_noteSort h_whose h_what h_noteIs h_fitting h_dawn h_likes h_walked h_came h_inn_creak h_inn_doorA h_inn_doorB h_inn_how h_inn_lies h_inn_isCold h_inn_falls h_inn_isFull h_inn_isTold h_inn_act h_inn_what h_inn_then h_inn_met h_inn_bed h_inn_dream h_inn_listens h_inn_name h_inn_nameSort h_inn_nameNumber v_thrown v_trouble v_where v_read v_taped v_size v_at v_sort v_place v_sign v_number v_fault v_wrongAt v_word v_marks v_notes (upd v_w (6 + p0).toNatClampNeg (-2)) v_inn_minutes v_inn_rooms v_inn_doors v_inn_things v_inn_dreams v_inn_sleepers v_inn_listeners v_inn_names v_inn_doorA v_inn_doorB)) C hP hD hS 1 rfl hi_103 rfl dX12_does_103 ?_
        clear hP hD hS; intro H locs hP hD hS
        refine lv_iload (pc := 104) hx hb dX12_does_104 (lv_at hl 0 rfl) ?_
        obtain ⟨hz_106, hf⟩ := zg_s hf
        cases hf
        rw [hQ]
        exact r_zret C hr hP hD hS hz_106 rfl dX12_does_106
      clear ej91
      refine lv_icmp_eq (pc := 83) (tgt := 90) hx hb dX12_does_83 (by decide) (fun c_83 => ?_) (fun c_83 => ?_)
      · replace hf := it_t c_83 hf
        refine lv_iconst (pc := 90) (v := 0) hx hb dX12_does_90 (by decide) ?_
        exact hj91 0 hf _ _ _ (lv_sub hl [1, 2] rfl) hP hD hS
      · replace hf := it_f c_83 hf
        refine lv_iconst (pc := 86) (v := 1) hx hb dX12_does_86 (by decide) ?_
        refine lv_goto (pc := 87) (tgt := 91) hx hb dX12_does_87 (by decide) ?_
        exact hj91 1 hf _ _ _ (lv_sub hl [1, 2] rfl) hP hD hS
  · replace hf := it_t c_12 hf
    refine lv_aload_n (pc := 15) hx hb dX12_does_15 rfl (lv_at hl 1 rfl) ?_
    refine r_get (pc := 16) C hP 0 rfl fl_X12_36 rfl dX12_does_16 ?_
    refine lv_bipush (pc := 19) (v := 15) hx hb dX12_does_19 (by decide) ?_
    refine lv_iload_n (pc := 21) hx hb dX12_does_21 rfl (lv_at hl 4 rfl) ?_
    refine lv_iadd (pc := 22) hx hb dX12_does_22 ?_
    obtain ⟨hi_23, hf⟩ := gd_s hf
    refine r_iald (pc := 23) C hP 1 rfl hi_23 dX12_does_23 ?_
    refine lv_iload (pc := 24) hx hb dX12_does_24 (lv_at hl 0 rfl) ?_
    refine lv_icmp_ne (pc := 26) (tgt := 53) hx hb dX12_does_26 (by decide) (fun c_26 => ?_) (fun c_26 => ?_)
    · replace hf := it_f c_26 hf
      refine lv_iconst (pc := 53) (v := 0) hx hb dX12_does_53 (by decide) ?_
      cases hf
      rw [hQ]
      exact r_zret C hr hP hD hS (Or.inl rfl) rfl dX12_does_54
    · replace hf := it_t c_26 hf
      refine lv_aload_n (pc := 29) hx hb dX12_does_29 rfl (lv_at hl 1 rfl) ?_
      refine lv_iload_n (pc := 30) hx hb dX12_does_30 rfl (lv_at hl 4 rfl) ?_
      obtain ⟨r_31, hc_31, hf⟩ := bd1 hf
      refine r_dalVi (pc := 31) (ws' := (wX12_does E h h_inn h_tape h_far h_from h_real h_other h_kept h_set h_w h_book h_noteSort h_whose h_what h_noteIs h_fitting h_dawn h_likes h_walked h_came h_inn_creak h_inn_doorA h_inn_doorB h_inn_how h_inn_lies h_inn_isCold h_inn_falls h_inn_isFull h_inn_isTold h_inn_act h_inn_what h_inn_then h_inn_met h_inn_bed h_inn_dream h_inn_listens h_inn_name h_inn_nameSort h_inn_nameNumber v_thrown v_trouble v_where v_read v_taped v_size v_at v_sort v_place v_sign v_number v_fault v_wrongAt v_word v_marks v_notes v_w v_inn_minutes v_inn_rooms v_inn_doors v_inn_things v_inn_dreams v_inn_sleepers v_inn_listeners v_inn_names v_inn_doorA v_inn_doorB)) (As := [.int p2]) (rest := []) C (ctX12_holder l E h h_inn h_tape h_far h_from h_real h_other h_kept h_set h_w h_book h_noteSort h_whose h_what h_noteIs h_fitting h_dawn h_likes h_walked h_came h_inn_creak h_inn_doorA h_inn_doorB h_inn_how h_inn_lies h_inn_isCold h_inn_falls h_inn_isFull h_inn_isTold h_inn_act h_inn_what h_inn_then h_inn_met h_inn_bed h_inn_dream h_inn_listens h_inn_name h_inn_nameSort h_inn_nameNumber v_thrown v_trouble v_where v_read v_taped v_size v_at v_sort v_place v_sign v_number v_fault v_wrongAt v_word v_marks v_notes v_inn_minutes v_inn_rooms v_inn_doors v_inn_things v_inn_dreams v_inn_sleepers v_inn_listeners v_inn_names v_w N p2 r_31 hc_31) ml_X12_400 ⟨Nat.le_of_ble_eq_true rfl, Nat.le_of_ble_eq_true rfl⟩ hP hD hS 0 rfl rfl rfl [0, 2, 1] [5, 7, 6, 3, 4] 5 rfl rfl rfl rfl rfl rfl rfl hl.1 rfl (Nat.le_of_ble_eq_true rfl) ⟨Nat.zero_le _, Nat.zero_le _⟩ dX12_does_31 ?_
      clear hP hD hS; intro H locs hP hD hS
      refine lv_bipush (pc := 34) (v := (-2)) hx hb dX12_does_34 (by decide) ?_
      refine lv_icmp_ne (pc := 36) (tgt := 53) hx hb dX12_does_36 (by decide) (fun c_36 => ?_) (fun c_36 => ?_)
      · replace hf := it_f c_36 hf
        refine lv_iconst (pc := 53) (v := 0) hx hb dX12_does_53 (by decide) ?_
        cases hf
        rw [hQ]
        exact r_zret C hr hP hD hS (Or.inl rfl) rfl dX12_does_54
      · replace hf := it_t c_36 hf
        refine lv_aload_n (pc := 39) hx hb dX12_does_39 rfl (lv_at hl 1 rfl) ?_
        refine r_get (pc := 40) C hP 0 rfl fl_X12_36 rfl dX12_does_40 ?_
        refine lv_bipush (pc := 43) (v := 6) hx hb dX12_does_43 (by decide) ?_
        refine lv_iload_n (pc := 45) hx hb dX12_does_45 rfl (lv_at hl 2 rfl) ?_
        refine lv_iadd (pc := 46) hx hb dX12_does_46 ?_
        obtain ⟨hi_47, hf⟩ := gd_s hf
        refine r_iald (pc := 47) C hP 1 rfl hi_47 dX12_does_47 ?_
        refine lv_bipush (pc := 48) (v := (-2)) hx hb dX12_does_48 (by decide) ?_
        refine lv_icmp_eq (pc := 50) (tgt := 55) hx hb dX12_does_50 (by decide) (fun c_50 => ?_) (fun c_50 => ?_)
        · replace hf := it_t c_50 hf
          refine lv_aload_n (pc := 55) hx hb dX12_does_55 rfl (lv_at hl 1 rfl) ?_
          refine r_get (pc := 56) C hP 0 rfl fl_X12_36 rfl dX12_does_56 ?_
          refine lv_bipush (pc := 59) (v := 6) hx hb dX12_does_59 (by decide) ?_
          refine lv_iload_n (pc := 61) hx hb dX12_does_61 rfl (lv_at hl 2 rfl) ?_
          refine lv_iadd (pc := 62) hx hb dX12_does_62 ?_
          refine lv_iload_n (pc := 63) hx hb dX12_does_63 rfl (lv_at hl 4 rfl) ?_
          obtain ⟨hi_64, hf⟩ := gd_s hf
          refine r_iast (pc := 64) (ws' := (wX12_does E h h_inn h_tape h_far h_from h_real h_other h_kept h_set h_w h_book h_noteSort h_whose h_what h_noteIs h_fitting h_dawn h_likes h_walked h_came h_inn_creak h_inn_doorA h_inn_doorB h_inn_how h_inn_lies h_inn_isCold h_inn_falls h_inn_isFull h_inn_isTold h_inn_act h_inn_what h_inn_then h_inn_met h_inn_bed h_inn_dream h_inn_listens h_inn_name h_inn_nameSort h_inn_nameNumber v_thrown v_trouble v_where v_read v_taped v_size v_at v_sort v_place v_sign v_number v_fault v_wrongAt v_word v_marks v_notes (upd v_w (6 + p0).toNatClampNeg p2) v_inn_minutes v_inn_rooms v_inn_doors v_inn_things v_inn_dreams v_inn_sleepers v_inn_listeners v_inn_names v_inn_doorA v_inn_doorB)) C hP hD hS 1 rfl hi_64 rfl dX12_does_64 ?_
          clear hP hD hS; intro H locs hP hD hS
          refine lv_iconst (pc := 65) (v := 1) hx hb dX12_does_65 (by decide) ?_
          cases hf
          rw [hQ]
          exact r_zret C hr hP hD hS (Or.inr rfl) rfl dX12_does_66
        · replace hf := it_f c_50 hf
          refine lv_iconst (pc := 53) (v := 0) hx hb dX12_does_53 (by decide) ?_
          cases hf
          rw [hQ]
          exact r_zret C hr hP hD hS (Or.inl rfl) rfl dX12_does_54
def wX12_acts (E : EN) (h h_inn h_tape h_far h_from h_real h_other h_kept h_set h_w h_book h_noteSort h_whose h_what h_noteIs h_fitting h_dawn h_likes h_walked h_came h_inn_creak h_inn_doorA h_inn_doorB h_inn_how h_inn_lies h_inn_isCold h_inn_falls h_inn_isFull h_inn_isTold h_inn_act h_inn_what h_inn_then h_inn_met h_inn_bed h_inn_dream h_inn_listens h_inn_name h_inn_nameSort h_inn_nameNumber : Nat) (v_thrown : Int32) (v_trouble : Int32) (v_where : Int32) (v_read : Option Nat) (v_taped : Int32) (v_size : Int32) (v_at : Int32) (v_sort : Int32) (v_place : Int32) (v_sign : Int32) (v_number : Int32) (v_fault : Int32) (v_wrongAt : Int32) (v_word : Int64) (v_marks : Int32) (v_notes : Int32) (v_w : Nat → Int32) (v_inn_minutes : Int32) (v_inn_rooms : Int32) (v_inn_doors : Int32) (v_inn_things : Int32) (v_inn_dreams : Int32) (v_inn_sleepers : Int32) (v_inn_listeners : Int32) (v_inn_names : Int32) (v_inn_isTold : Nat → Int32) (v_inn_act : Nat → Int32) (v_inn_then : Nat → Int32) (v_inn_what : Nat → Int32) (v_inn_doorA : Nat → Int32) (v_inn_doorB : Nat → Int32) (v_from : Nat → Int32) (v_inn_falls : Nat → Int32) (v_inn_creak : Nat → Int32) (v_inn_listens : Nat → Int32) (v_far : Nat → Int32) (v_inn_isCold : Nat → Int32) (v_inn_met : Nat → Int32) : va_W := [(h, .inr (11, [.int v_thrown, .int v_trouble, .int v_where, .ref h_inn, va_rf v_read, .ref h_tape, .int v_taped, .int v_size, .int v_at, .int v_sort, .int v_place, .int v_sign, .int v_number, .int v_fault, .int v_wrongAt, .long v_word, .ref h_far, .ref h_from, .ref h_real, .ref h_other, .ref h_kept, .ref h_set, .ref h_w, .int v_marks, .int v_notes, .ref h_book, .ref h_noteSort, .ref h_whose, .ref h_what, .ref h_noteIs, .ref h_fitting, .ref h_dawn, .ref h_likes, .ref h_walked, .ref h_came])), (h_w, aI E 51 v_w), (h_inn, .inr (10, [.int v_inn_minutes, .int v_inn_rooms, .int v_inn_doors, .int v_inn_things, .int v_inn_dreams, .int v_inn_sleepers, .int v_inn_listeners, .int v_inn_names, .ref h_inn_creak, .ref h_inn_doorA, .ref h_inn_doorB, .ref h_inn_how, .ref h_inn_lies, .ref h_inn_isCold, .ref h_inn_falls, .ref h_inn_isFull, .ref h_inn_isTold, .ref h_inn_act, .ref h_inn_what, .ref h_inn_then, .ref h_inn_met, .ref h_inn_bed, .ref h_inn_dream, .ref h_inn_listens, .ref h_inn_name, .ref h_inn_nameSort, .ref h_inn_nameNumber])), (h_inn_isTold, aZ E 16 v_inn_isTold), (h_inn_act, aI E 16 v_inn_act), (h_inn_then, aI E 16 v_inn_then), (h_inn_what, aI E 16 v_inn_what), (h_inn_doorA, aI E 10 v_inn_doorA), (h_inn_doorB, aI E 10 v_inn_doorB), (h_from, aI E 8 v_from), (h_inn_falls, aZ E 10 v_inn_falls), (h_inn_creak, aI E 8 v_inn_creak), (h_inn_listens, aI E 3 v_inn_listens), (h_far, aI E 64 v_far), (h_inn_isCold, aZ E 8 v_inn_isCold), (h_inn_met, aI E 16 v_inn_met)]
def fX12_acts (N : Nat) (p0 : Int32) (v_w : Nat → Int32) (v_inn_rooms : Int32) (v_inn_doors : Int32) (v_inn_sleepers : Int32) (v_inn_listeners : Int32) (v_inn_isTold : Nat → Int32) (v_inn_act : Nat → Int32) (v_inn_then : Nat → Int32) (v_inn_what : Nat → Int32) (v_inn_doorA : Nat → Int32) (v_inn_doorB : Nat → Int32) (v_from : Nat → Int32) (v_inn_falls : Nat → Int32) (v_inn_creak : Nat → Int32) (v_inn_listens : Nat → Int32) (v_far : Nat → Int32) (v_inn_isCold : Nat → Int32) (v_inn_met : Nat → Int32) : Option ((Nat → Int32) × (Nat → Int32)) := (fX12_stateOf N p0 v_w).bind (un1 fun (r_2 : Int32) => gd r_2 16 (if (v_inn_isTold r_2.toNatClampNeg) = 0 then (some (v_w, v_from)) else (gd r_2 16 (jn (un0 (gd r_2 16 (jn (un1 fun (x106_w : Nat → Int32) => gd r_2 16 (gd (3 + p0) 51 (some (upd x106_w (3 + p0).toNatClampNeg (v_inn_then r_2.toNatClampNeg), v_from)))) (fun j106 => if (v_inn_act r_2.toNatClampNeg) = 0 then (j106 v_w) else (gd r_2 16 (gd r_2 16 ((fX12_does N p0 (v_inn_act r_2.toNatClampNeg) (v_inn_what r_2.toNatClampNeg) v_w v_inn_doors v_inn_sleepers v_inn_doorA v_inn_doorB).bind (un2 fun (r_100 : Int32) (v_w_100 : Nat → Int32) => if r_100 = 0 then (some (v_w_100, v_from)) else (j106 v_w_100))))))))) (fun j68 => if (v_inn_act r_2.toNatClampNeg) = 0 then (gd (0 + p0) 51 (gd r_2 16 (if (v_w (0 + p0).toNatClampNeg) = (v_inn_what r_2.toNatClampNeg) then (j68 ()) else (gd r_2 16 ((fX12_goes N p0 (v_inn_what r_2.toNatClampNeg) v_w v_inn_rooms v_inn_doors v_inn_sleepers v_inn_listeners v_inn_doorA v_from v_inn_doorB v_inn_falls v_inn_creak v_inn_listens v_far v_inn_isCold v_inn_isTold v_inn_met).bind (un2 fun (v_w_62 : Nat → Int32) (v_from_62 : Nat → Int32) => some (v_w_62, v_from_62))))))) else (j68 ()))))))
set_option maxHeartbeats 4000000 in
set_option maxRecDepth 100000 in
theorem ctX12_acts (l : Launch) (E : EN) (h h_inn h_tape h_far h_from h_real h_other h_kept h_set h_w h_book h_noteSort h_whose h_what h_noteIs h_fitting h_dawn h_likes h_walked h_came h_inn_creak h_inn_doorA h_inn_doorB h_inn_how h_inn_lies h_inn_isCold h_inn_falls h_inn_isFull h_inn_isTold h_inn_act h_inn_what h_inn_then h_inn_met h_inn_bed h_inn_dream h_inn_listens h_inn_name h_inn_nameSort h_inn_nameNumber : Nat) (v_thrown : Int32) (v_trouble : Int32) (v_where : Int32) (v_read : Option Nat) (v_taped : Int32) (v_size : Int32) (v_at : Int32) (v_sort : Int32) (v_place : Int32) (v_sign : Int32) (v_number : Int32) (v_fault : Int32) (v_wrongAt : Int32) (v_word : Int64) (v_marks : Int32) (v_notes : Int32) (v_w : Nat → Int32) (v_inn_minutes : Int32) (v_inn_rooms : Int32) (v_inn_doors : Int32) (v_inn_things : Int32) (v_inn_dreams : Int32) (v_inn_sleepers : Int32) (v_inn_listeners : Int32) (v_inn_names : Int32) (v_inn_isTold : Nat → Int32) (v_inn_act : Nat → Int32) (v_inn_then : Nat → Int32) (v_inn_what : Nat → Int32) (v_inn_doorA : Nat → Int32) (v_inn_doorB : Nat → Int32) (v_from : Nat → Int32) (v_inn_falls : Nat → Int32) (v_inn_creak : Nat → Int32) (v_inn_listens : Nat → Int32) (v_far : Nat → Int32) (v_inn_isCold : Nat → Int32) (v_inn_met : Nat → Int32) (N : Nat) (p0 : Int32) (z : (Nat → Int32) × (Nat → Int32)) (hf : fX12_acts N p0 v_w v_inn_rooms v_inn_doors v_inn_sleepers v_inn_listeners v_inn_isTold v_inn_act v_inn_then v_inn_what v_inn_doorA v_inn_doorB v_from v_inn_falls v_inn_creak v_inn_listens v_far v_inn_isCold v_inn_met = some z) : CTv l E yX12_acts cX12_acts 3 3 73 [.ref h, .int p0] (wX12_acts E h h_inn h_tape h_far h_from h_real h_other h_kept h_set h_w h_book h_noteSort h_whose h_what h_noteIs h_fitting h_dawn h_likes h_walked h_came h_inn_creak h_inn_doorA h_inn_doorB h_inn_how h_inn_lies h_inn_isCold h_inn_falls h_inn_isFull h_inn_isTold h_inn_act h_inn_what h_inn_then h_inn_met h_inn_bed h_inn_dream h_inn_listens h_inn_name h_inn_nameSort h_inn_nameNumber v_thrown v_trouble v_where v_read v_taped v_size v_at v_sort v_place v_sign v_number v_fault v_wrongAt v_word v_marks v_notes v_w v_inn_minutes v_inn_rooms v_inn_doors v_inn_things v_inn_dreams v_inn_sleepers v_inn_listeners v_inn_names v_inn_isTold v_inn_act v_inn_then v_inn_what v_inn_doorA v_inn_doorB v_from v_inn_falls v_inn_creak v_inn_listens v_far v_inn_isCold v_inn_met) (wX12_acts E h h_inn h_tape h_far h_from h_real h_other h_kept h_set h_w h_book h_noteSort h_whose h_what h_noteIs h_fitting h_dawn h_likes h_walked h_came h_inn_creak h_inn_doorA h_inn_doorB h_inn_how h_inn_lies h_inn_isCold h_inn_falls h_inn_isFull h_inn_isTold h_inn_act h_inn_what h_inn_then h_inn_met h_inn_bed h_inn_dream h_inn_listens h_inn_name h_inn_nameSort h_inn_nameNumber v_thrown v_trouble v_where v_read v_taped v_size v_at v_sort v_place v_sign v_number v_fault v_wrongAt v_word v_marks v_notes z.1 v_inn_minutes v_inn_rooms v_inn_doors v_inn_things v_inn_dreams v_inn_sleepers v_inn_listeners v_inn_names v_inn_isTold v_inn_act v_inn_then v_inn_what v_inn_doorA v_inn_doorB z.2 v_inn_falls v_inn_creak v_inn_listens v_far v_inn_isCold v_inn_met) := by
  intro sz
  refine ct_body (by decide) (Nat.le_of_ble_eq_true rfl) ?_
  intro p e s m args below meth c A ls hAe C hr hin hP hD hS hl
  have C : CX p s m args meth c cX12_acts RX12 3 E A := C
  have hl : lv_has ls 3 [(0, .ref h), (1, .int p0)] := hl
  have hx := C.1
  have hb := C.2.1
  rw [hAe]
  clear hAe
  obtain ⟨Q, hQ⟩ : ∃ Q, Q = MQ below (Qv E A (wX12_acts E h h_inn h_tape h_far h_from h_real h_other h_kept h_set h_w h_book h_noteSort h_whose h_what h_noteIs h_fitting h_dawn h_likes h_walked h_came h_inn_creak h_inn_doorA h_inn_doorB h_inn_how h_inn_lies h_inn_isCold h_inn_falls h_inn_isFull h_inn_isTold h_inn_act h_inn_what h_inn_then h_inn_met h_inn_bed h_inn_dream h_inn_listens h_inn_name h_inn_nameSort h_inn_nameNumber v_thrown v_trouble v_where v_read v_taped v_size v_at v_sort v_place v_sign v_number v_fault v_wrongAt v_word v_marks v_notes z.1 v_inn_minutes v_inn_rooms v_inn_doors v_inn_things v_inn_dreams v_inn_sleepers v_inn_listeners v_inn_names v_inn_isTold v_inn_act v_inn_then v_inn_what v_inn_doorA v_inn_doorB z.2 v_inn_falls v_inn_creak v_inn_listens v_far v_inn_isCold v_inn_met)) args s 0 0 A := ⟨_, rfl⟩
  rw [← hQ]
  unfold fX12_acts at hf
  refine lv_aload_n (pc := 0) hx hb dX12_acts_0 rfl (lv_at hl 0 rfl) ?_
  refine lv_iload_n (pc := 1) hx hb dX12_acts_1 rfl (lv_at hl 1 rfl) ?_
  obtain ⟨r_2, hc_2, hf⟩ := bd1 hf
  refine r_dalVi (pc := 2) (ws' := (wX12_acts E h h_inn h_tape h_far h_from h_real h_other h_kept h_set h_w h_book h_noteSort h_whose h_what h_noteIs h_fitting h_dawn h_likes h_walked h_came h_inn_creak h_inn_doorA h_inn_doorB h_inn_how h_inn_lies h_inn_isCold h_inn_falls h_inn_isFull h_inn_isTold h_inn_act h_inn_what h_inn_then h_inn_met h_inn_bed h_inn_dream h_inn_listens h_inn_name h_inn_nameSort h_inn_nameNumber v_thrown v_trouble v_where v_read v_taped v_size v_at v_sort v_place v_sign v_number v_fault v_wrongAt v_word v_marks v_notes v_w v_inn_minutes v_inn_rooms v_inn_doors v_inn_things v_inn_dreams v_inn_sleepers v_inn_listeners v_inn_names v_inn_isTold v_inn_act v_inn_then v_inn_what v_inn_doorA v_inn_doorB v_from v_inn_falls v_inn_creak v_inn_listens v_far v_inn_isCold v_inn_met)) (As := [.int p0]) (rest := []) C (ctX12_stateOf l E h h_tape h_far h_from h_real h_other h_kept h_set h_w h_book h_noteSort h_whose h_what h_noteIs h_fitting h_dawn h_likes h_walked h_came v_thrown v_trouble v_where (some h_inn) v_read v_taped v_size v_at v_sort v_place v_sign v_number v_fault v_wrongAt v_word v_marks v_notes v_w N p0 r_2 hc_2) ml_X12_388 ⟨Nat.le_of_ble_eq_true rfl, Nat.le_of_ble_eq_true rfl⟩ hP hD hS 0 rfl rfl rfl [0, 1] [16, 17, 2, 3, 4, 5, 6, 7, 8, 9, 10, 11, 12, 13, 14, 15] 16 rfl rfl rfl rfl rfl rfl rfl hl.1 rfl (Nat.le_of_ble_eq_true rfl) ⟨Nat.zero_le _, Nat.zero_le _⟩ dX12_acts_2 ?_
  clear hP hD hS; intro H locs hP hD hS
  refine lv_istore_n (pc := 5) (lv' := [(2, .int r_2), (0, .ref h), (1, .int p0)]) hx hb dX12_acts_5 rfl hl (by decide) rfl (fun ls hl => ?_)
  refine lv_aload_n (pc := 6) hx hb dX12_acts_6 rfl (lv_at hl 1 rfl) ?_
  refine r_get (pc := 7) C hP 0 rfl fl_X12_358 rfl dX12_acts_7 ?_
  refine r_get (pc := 10) C hP 2 rfl fl_X12_328 rfl dX12_acts_10 ?_
  refine lv_iload_n (pc := 13) hx hb dX12_acts_13 rfl (lv_at hl 0 rfl) ?_
  obtain ⟨hi_14, hf⟩ := gd_s hf
  refine r_zald (pc := 14) C hP 3 rfl hi_14 dX12_acts_14 ?_
  refine lv_if_ne (pc := 15) (tgt := 19) hx hb dX12_acts_15 (by decide) (fun c_15 => ?_) (fun c_15 => ?_)
  · replace hf := it_f c_15 hf
    refine lv_aload_n (pc := 19) hx hb dX12_acts_19 rfl (lv_at hl 1 rfl) ?_
    refine r_get (pc := 20) C hP 0 rfl fl_X12_358 rfl dX12_acts_20 ?_
    refine r_get (pc := 23) C hP 2 rfl fl_X12_331 rfl dX12_acts_23 ?_
    refine lv_iload_n (pc := 26) hx hb dX12_acts_26 rfl (lv_at hl 0 rfl) ?_
    obtain ⟨hi_27, hf⟩ := gd_s hf
    refine r_iald (pc := 27) C hP 4 rfl hi_27 dX12_acts_27 ?_
    refine jnK hf (fun j68 ej68 hf => ?_)
    have hj68 : j68 () = some z → AT p l e (rmOf 3 73) s m args below meth c E A Q 0 0 3 [(0, .ref h), (1, .int p0), (2, .int r_2)] (wX12_acts E h h_inn h_tape h_far h_from h_real h_other h_kept h_set h_w h_book h_noteSort h_whose h_what h_noteIs h_fitting h_dawn h_likes h_walked h_came h_inn_creak h_inn_doorA h_inn_doorB h_inn_how h_inn_lies h_inn_isCold h_inn_falls h_inn_isFull h_inn_isTold h_inn_act h_inn_what h_inn_then h_inn_met h_inn_bed h_inn_dream h_inn_listens h_inn_name h_inn_nameSort h_inn_nameNumber v_thrown v_trouble v_where v_read v_taped v_size v_at v_sort v_place v_sign v_number v_fault v_wrongAt v_word v_marks v_notes v_w v_inn_minutes v_inn_rooms v_inn_doors v_inn_things v_inn_dreams v_inn_sleepers v_inn_listeners v_inn_names v_inn_isTold v_inn_act v_inn_then v_inn_what v_inn_doorA v_inn_doorB v_from v_inn_falls v_inn_creak v_inn_listens v_far v_inn_isCold v_inn_met) 68 [] := by
      intro  hf H locs ls hl hP hD hS
      rw [ej68] at hf
      replace hf := un0_s hf
      refine lv_aload_n (pc := 68) hx hb dX12_acts_68 rfl (lv_at hl 0 rfl) ?_
      refine r_get (pc := 69) C hP 0 rfl fl_X12_358 rfl dX12_acts_69 ?_
      refine r_get (pc := 72) C hP 2 rfl fl_X12_331 rfl dX12_acts_72 ?_
      refine lv_iload_n (pc := 75) hx hb dX12_acts_75 rfl (lv_at hl 2 rfl) ?_
      obtain ⟨hi_76, hf⟩ := gd_s hf
      refine r_iald (pc := 76) C hP 4 rfl hi_76 dX12_acts_76 ?_
      refine jnK hf (fun j106 ej106 hf => ?_)
      have hj106 : ∀ (x106_w : Nat → Int32) , j106 x106_w = some z → AT p l e (rmOf 3 73) s m args below meth c E A Q 0 0 3 [(0, .ref h), (1, .int p0), (2, .int r_2)] (wX12_acts E h h_inn h_tape h_far h_from h_real h_other h_kept h_set h_w h_book h_noteSort h_whose h_what h_noteIs h_fitting h_dawn h_likes h_walked h_came h_inn_creak h_inn_doorA h_inn_doorB h_inn_how h_inn_lies h_inn_isCold h_inn_falls h_inn_isFull h_inn_isTold h_inn_act h_inn_what h_inn_then h_inn_met h_inn_bed h_inn_dream h_inn_listens h_inn_name h_inn_nameSort h_inn_nameNumber v_thrown v_trouble v_where v_read v_taped v_size v_at v_sort v_place v_sign v_number v_fault v_wrongAt v_word v_marks v_notes x106_w v_inn_minutes v_inn_rooms v_inn_doors v_inn_things v_inn_dreams v_inn_sleepers v_inn_listeners v_inn_names v_inn_isTold v_inn_act v_inn_then v_inn_what v_inn_doorA v_inn_doorB v_from v_inn_falls v_inn_creak v_inn_listens v_far v_inn_isCold v_inn_met) 106 [] := by
        intro x106_w hf H locs ls hl hP hD hS
        rw [ej106] at hf
        replace hf := un1_s hf
        refine lv_aload_n (pc := 106) hx hb dX12_acts_106 rfl (lv_at hl 0 rfl) ?_
        refine r_get (pc := 107) C hP 0 rfl fl_X12_36 rfl dX12_acts_107 ?_
        refine lv_iconst (pc := 110) (v := 3) hx hb dX12_acts_110 (by decide) ?_
        refine lv_iload_n (pc := 111) hx hb dX12_acts_111 rfl (lv_at hl 1 rfl) ?_
        refine lv_iadd (pc := 112) hx hb dX12_acts_112 ?_
        refine lv_aload_n (pc := 113) hx hb dX12_acts_113 rfl (lv_at hl 0 rfl) ?_
        refine r_get (pc := 114) C hP 0 rfl fl_X12_358 rfl dX12_acts_114 ?_
        refine r_get (pc := 117) C hP 2 rfl fl_X12_335 rfl dX12_acts_117 ?_
        refine lv_iload_n (pc := 120) hx hb dX12_acts_120 rfl (lv_at hl 2 rfl) ?_
        obtain ⟨hi_121, hf⟩ := gd_s hf
        refine r_iald (pc := 121) C hP 5 rfl hi_121 dX12_acts_121 ?_
        obtain ⟨hi_122, hf⟩ := gd_s hf
        refine r_iast (pc := 122) (ws' := (wX12_acts E h h_inn h_tape h_far h_from h_real h_other h_kept h_set h_w h_book h_noteSort h_whose h_what h_noteIs h_fitting h_dawn h_likes h_walked h_came h_inn_creak h_inn_doorA h_inn_doorB h_inn_how h_inn_lies h_inn_isCold h_inn_falls h_inn_isFull h_inn_isTold h_inn_act h_inn_what h_inn_then h_inn_met h_inn_bed h_inn_dream h_inn_listens h_inn_name h_inn_nameSort h_inn_nameNumber v_thrown v_trouble v_where v_read v_taped v_size v_at v_sort v_place v_sign v_number v_fault v_wrongAt v_word v_marks v_notes (upd x106_w (3 + p0).toNatClampNeg (v_inn_then r_2.toNatClampNeg)) v_inn_minutes v_inn_rooms v_inn_doors v_inn_things v_inn_dreams v_inn_sleepers v_inn_listeners v_inn_names v_inn_isTold v_inn_act v_inn_then v_inn_what v_inn_doorA v_inn_doorB v_from v_inn_falls v_inn_creak v_inn_listens v_far v_inn_isCold v_inn_met)) C hP hD hS 1 rfl hi_122 rfl dX12_acts_122 ?_
        clear hP hD hS; intro H locs hP hD hS
        cases hf
        rw [hQ]
        exact r_vret C hr hP hD hS dX12_acts_123
      clear ej106
      refine lv_if_eq (pc := 77) (tgt := 106) hx hb dX12_acts_77 (by decide) (fun c_77 => ?_) (fun c_77 => ?_)
      · replace hf := it_t c_77 hf
        exact hj106 v_w hf _ _ _ (lv_sub hl [0, 1, 2] rfl) hP hD hS
      · replace hf := it_f c_77 hf
        refine lv_aload_n (pc := 80) hx hb dX12_acts_80 rfl (lv_at hl 0 rfl) ?_
        refine lv_iload_n (pc := 81) hx hb dX12_acts_81 rfl (lv_at hl 1 rfl) ?_
        refine lv_aload_n (pc := 82) hx hb dX12_acts_82 rfl (lv_at hl 0 rfl) ?_
        refine r_get (pc := 83) C hP 0 rfl fl_X12_358 rfl dX12_acts_83 ?_
        refine r_get (pc := 86) C hP 2 rfl fl_X12_331 rfl dX12_acts_86 ?_
        refine lv_iload_n (pc := 89) hx hb dX12_acts_89 rfl (lv_at hl 2 rfl) ?_
        obtain ⟨hi_90, hf⟩ := gd_s hf
        refine r_iald (pc := 90) C hP 4 rfl hi_90 dX12_acts_90 ?_
        refine lv_aload_n (pc := 91) hx hb dX12_acts_91 rfl (lv_at hl 0 rfl) ?_
        refine r_get (pc := 92) C hP 0 rfl fl_X12_358 rfl dX12_acts_92 ?_
        refine r_get (pc := 95) C hP 2 rfl fl_X12_334 rfl dX12_acts_95 ?_
        refine lv_iload_n (pc := 98) hx hb dX12_acts_98 rfl (lv_at hl 2 rfl) ?_
        obtain ⟨hi_99, hf⟩ := gd_s hf
        refine r_iald (pc := 99) C hP 6 rfl hi_99 dX12_acts_99 ?_
        obtain ⟨r_100, v_w_100, hc_100, hf⟩ := bd2 hf
        refine r_dalVi (pc := 100) (ws' := (wX12_acts E h h_inn h_tape h_far h_from h_real h_other h_kept h_set h_w h_book h_noteSort h_whose h_what h_noteIs h_fitting h_dawn h_likes h_walked h_came h_inn_creak h_inn_doorA h_inn_doorB h_inn_how h_inn_lies h_inn_isCold h_inn_falls h_inn_isFull h_inn_isTold h_inn_act h_inn_what h_inn_then h_inn_met h_inn_bed h_inn_dream h_inn_listens h_inn_name h_inn_nameSort h_inn_nameNumber v_thrown v_trouble v_where v_read v_taped v_size v_at v_sort v_place v_sign v_number v_fault v_wrongAt v_word v_marks v_notes v_w_100 v_inn_minutes v_inn_rooms v_inn_doors v_inn_things v_inn_dreams v_inn_sleepers v_inn_listeners v_inn_names v_inn_isTold v_inn_act v_inn_then v_inn_what v_inn_doorA v_inn_doorB v_from v_inn_falls v_inn_creak v_inn_listens v_far v_inn_isCold v_inn_met)) (As := [.int p0, .int (v_inn_act r_2.toNatClampNeg), .int (v_inn_what r_2.toNatClampNeg)]) (rest := []) C (ctX12_does l E h h_inn h_tape h_far h_from h_real h_other h_kept h_set h_w h_book h_noteSort h_whose h_what h_noteIs h_fitting h_dawn h_likes h_walked h_came h_inn_creak h_inn_doorA h_inn_doorB h_inn_how h_inn_lies h_inn_isCold h_inn_falls h_inn_isFull h_inn_isTold h_inn_act h_inn_what h_inn_then h_inn_met h_inn_bed h_inn_dream h_inn_listens h_inn_name h_inn_nameSort h_inn_nameNumber v_thrown v_trouble v_where v_read v_taped v_size v_at v_sort v_place v_sign v_number v_fault v_wrongAt v_word v_marks v_notes v_w v_inn_minutes v_inn_rooms v_inn_doors v_inn_things v_inn_dreams v_inn_sleepers v_inn_listeners v_inn_names v_inn_doorA v_inn_doorB N p0 (v_inn_act r_2.toNatClampNeg) (v_inn_what r_2.toNatClampNeg) (r_100, v_w_100) hc_100) ml_X12_406 ⟨Nat.le_of_ble_eq_true rfl, Nat.le_of_ble_eq_true rfl⟩ hP hD hS 0 rfl rfl rfl [0, 1, 2, 7, 8] [16, 17, 18, 3, 4, 5, 6, 19, 20, 9, 10, 11, 12, 13, 14, 15] 16 rfl rfl rfl rfl rfl rfl rfl hl.1 rfl (Nat.le_of_ble_eq_true rfl) ⟨Nat.zero_le _, Nat.zero_le _⟩ dX12_acts_100 ?_
        clear hP hD hS; intro H locs hP hD hS
        refine lv_if_eq (pc := 103) (tgt := 123) hx hb dX12_acts_103 (by decide) (fun c_103 => ?_) (fun c_103 => ?_)
        · replace hf := it_t c_103 hf
          cases hf
          rw [hQ]
          exact r_vret C hr hP hD hS dX12_acts_123
        · replace hf := it_f c_103 hf
          exact hj106 v_w_100 hf _ _ _ (lv_sub hl [0, 1, 2] rfl) hP hD hS
    clear ej68
    refine lv_if_ne (pc := 28) (tgt := 68) hx hb dX12_acts_28 (by decide) (fun c_28 => ?_) (fun c_28 => ?_)
    · replace hf := it_f c_28 hf
      exact hj68  hf _ _ _ (lv_sub hl [1, 2, 0] rfl) hP hD hS
    · replace hf := it_t c_28 hf
      refine lv_aload_n (pc := 31) hx hb dX12_acts_31 rfl (lv_at hl 1 rfl) ?_
      refine r_get (pc := 32) C hP 0 rfl fl_X12_36 rfl dX12_acts_32 ?_
      refine lv_iconst (pc := 35) (v := 0) hx hb dX12_acts_35 (by decide) ?_
      refine lv_iload_n (pc := 36) hx hb dX12_acts_36 rfl (lv_at hl 2 rfl) ?_
      refine lv_iadd (pc := 37) hx hb dX12_acts_37 ?_
      obtain ⟨hi_38, hf⟩ := gd_s hf
      refine r_iald (pc := 38) C hP 1 rfl hi_38 dX12_acts_38 ?_
      refine lv_aload_n (pc := 39) hx hb dX12_acts_39 rfl (lv_at hl 1 rfl) ?_
      refine r_get (pc := 40) C hP 0 rfl fl_X12_358 rfl dX12_acts_40 ?_
      refine r_get (pc := 43) C hP 2 rfl fl_X12_334 rfl dX12_acts_43 ?_
      refine lv_iload_n (pc := 46) hx hb dX12_acts_46 rfl (lv_at hl 0 rfl) ?_
      obtain ⟨hi_47, hf⟩ := gd_s hf
      refine r_iald (pc := 47) C hP 6 rfl hi_47 dX12_acts_47 ?_
      refine lv_icmp_eq (pc := 48) (tgt := 68) hx hb dX12_acts_48 (by decide) (fun c_48 => ?_) (fun c_48 => ?_)
      · replace hf := it_t c_48 hf
        exact hj68  hf _ _ _ (lv_sub hl [1, 2, 0] rfl) hP hD hS
      · replace hf := it_f c_48 hf
        refine lv_aload_n (pc := 51) hx hb dX12_acts_51 rfl (lv_at hl 1 rfl) ?_
        refine lv_iload_n (pc := 52) hx hb dX12_acts_52 rfl (lv_at hl 2 rfl) ?_
        refine lv_aload_n (pc := 53) hx hb dX12_acts_53 rfl (lv_at hl 1 rfl) ?_
        refine r_get (pc := 54) C hP 0 rfl fl_X12_358 rfl dX12_acts_54 ?_
        refine r_get (pc := 57) C hP 2 rfl fl_X12_334 rfl dX12_acts_57 ?_
        refine lv_iload_n (pc := 60) hx hb dX12_acts_60 rfl (lv_at hl 0 rfl) ?_
        obtain ⟨hi_61, hf⟩ := gd_s hf
        refine r_iald (pc := 61) C hP 6 rfl hi_61 dX12_acts_61 ?_
        obtain ⟨v_w_62, v_from_62, hc_62, hf⟩ := bd2 hf
        refine r_dalVv (pc := 62) (ws' := (wX12_acts E h h_inn h_tape h_far h_from h_real h_other h_kept h_set h_w h_book h_noteSort h_whose h_what h_noteIs h_fitting h_dawn h_likes h_walked h_came h_inn_creak h_inn_doorA h_inn_doorB h_inn_how h_inn_lies h_inn_isCold h_inn_falls h_inn_isFull h_inn_isTold h_inn_act h_inn_what h_inn_then h_inn_met h_inn_bed h_inn_dream h_inn_listens h_inn_name h_inn_nameSort h_inn_nameNumber v_thrown v_trouble v_where v_read v_taped v_size v_at v_sort v_place v_sign v_number v_fault v_wrongAt v_word v_marks v_notes v_w_62 v_inn_minutes v_inn_rooms v_inn_doors v_inn_things v_inn_dreams v_inn_sleepers v_inn_listeners v_inn_names v_inn_isTold v_inn_act v_inn_then v_inn_what v_inn_doorA v_inn_doorB v_from_62 v_inn_falls v_inn_creak v_inn_listens v_far v_inn_isCold v_inn_met)) (As := [.int p0, .int (v_inn_what r_2.toNatClampNeg)]) (rest := []) C (ctX12_goes l E h h_inn h_tape h_far h_from h_real h_other h_kept h_set h_w h_book h_noteSort h_whose h_what h_noteIs h_fitting h_dawn h_likes h_walked h_came h_inn_creak h_inn_doorA h_inn_doorB h_inn_how h_inn_lies h_inn_isCold h_inn_falls h_inn_isFull h_inn_isTold h_inn_act h_inn_what h_inn_then h_inn_met h_inn_bed h_inn_dream h_inn_listens h_inn_name h_inn_nameSort h_inn_nameNumber v_thrown v_trouble v_where v_read v_taped v_size v_at v_sort v_place v_sign v_number v_fault v_wrongAt v_word v_marks v_notes v_w v_inn_minutes v_inn_rooms v_inn_doors v_inn_things v_inn_dreams v_inn_sleepers v_inn_listeners v_inn_names v_inn_doorA v_from v_inn_doorB v_inn_falls v_inn_creak v_inn_listens v_far v_inn_isCold v_inn_isTold v_inn_met N p0 (v_inn_what r_2.toNatClampNeg) (v_w_62, v_from_62) hc_62) ml_X12_403 ⟨Nat.le_of_ble_eq_true rfl, Nat.le_of_ble_eq_true rfl⟩ hP hD hS 0 rfl rfl rfl [0, 1, 2, 7, 9, 8, 10, 11, 12, 13, 14, 3, 15] [16, 17, 18, 27, 4, 5, 6, 19, 21, 20, 22, 23, 24, 25, 26, 28] 16 rfl rfl rfl rfl rfl rfl rfl hl.1 rfl (Nat.le_of_ble_eq_true rfl) ⟨Nat.zero_le _, Nat.zero_le _⟩ dX12_acts_62 ?_
        clear hP hD hS; intro H locs hP hD hS
        refine lv_goto (pc := 65) (tgt := 123) hx hb dX12_acts_65 (by decide) ?_
        cases hf
        rw [hQ]
        exact r_vret C hr hP hD hS dX12_acts_123
  · replace hf := it_t c_15 hf
    cases hf
    rw [hQ]
    exact r_vret C hr hP hD hS dX12_acts_18
def wX12_passes (E : EN) (h h_inn h_tape h_far h_from h_real h_other h_kept h_set h_w h_book h_noteSort h_whose h_what h_noteIs h_fitting h_dawn h_likes h_walked h_came h_inn_creak h_inn_doorA h_inn_doorB h_inn_how h_inn_lies h_inn_isCold h_inn_falls h_inn_isFull h_inn_isTold h_inn_act h_inn_what h_inn_then h_inn_met h_inn_bed h_inn_dream h_inn_listens h_inn_name h_inn_nameSort h_inn_nameNumber : Nat) (v_thrown : Int32) (v_trouble : Int32) (v_where : Int32) (v_read : Option Nat) (v_taped : Int32) (v_size : Int32) (v_at : Int32) (v_sort : Int32) (v_place : Int32) (v_sign : Int32) (v_number : Int32) (v_fault : Int32) (v_wrongAt : Int32) (v_word : Int64) (v_marks : Int32) (v_notes : Int32) (v_w : Nat → Int32) (v_inn_minutes : Int32) (v_inn_rooms : Int32) (v_inn_doors : Int32) (v_inn_things : Int32) (v_inn_dreams : Int32) (v_inn_sleepers : Int32) (v_inn_listeners : Int32) (v_inn_names : Int32) (v_inn_isTold : Nat → Int32) (v_inn_act : Nat → Int32) (v_inn_then : Nat → Int32) (v_inn_what : Nat → Int32) (v_inn_doorA : Nat → Int32) (v_inn_doorB : Nat → Int32) (v_from : Nat → Int32) (v_inn_falls : Nat → Int32) (v_inn_creak : Nat → Int32) (v_inn_listens : Nat → Int32) (v_far : Nat → Int32) (v_inn_isCold : Nat → Int32) (v_inn_met : Nat → Int32) : va_W := [(h, .inr (11, [.int v_thrown, .int v_trouble, .int v_where, .ref h_inn, va_rf v_read, .ref h_tape, .int v_taped, .int v_size, .int v_at, .int v_sort, .int v_place, .int v_sign, .int v_number, .int v_fault, .int v_wrongAt, .long v_word, .ref h_far, .ref h_from, .ref h_real, .ref h_other, .ref h_kept, .ref h_set, .ref h_w, .int v_marks, .int v_notes, .ref h_book, .ref h_noteSort, .ref h_whose, .ref h_what, .ref h_noteIs, .ref h_fitting, .ref h_dawn, .ref h_likes, .ref h_walked, .ref h_came])), (h_w, aI E 51 v_w), (h_inn, .inr (10, [.int v_inn_minutes, .int v_inn_rooms, .int v_inn_doors, .int v_inn_things, .int v_inn_dreams, .int v_inn_sleepers, .int v_inn_listeners, .int v_inn_names, .ref h_inn_creak, .ref h_inn_doorA, .ref h_inn_doorB, .ref h_inn_how, .ref h_inn_lies, .ref h_inn_isCold, .ref h_inn_falls, .ref h_inn_isFull, .ref h_inn_isTold, .ref h_inn_act, .ref h_inn_what, .ref h_inn_then, .ref h_inn_met, .ref h_inn_bed, .ref h_inn_dream, .ref h_inn_listens, .ref h_inn_name, .ref h_inn_nameSort, .ref h_inn_nameNumber])), (h_inn_isTold, aZ E 16 v_inn_isTold), (h_inn_act, aI E 16 v_inn_act), (h_inn_then, aI E 16 v_inn_then), (h_inn_what, aI E 16 v_inn_what), (h_inn_doorA, aI E 10 v_inn_doorA), (h_inn_doorB, aI E 10 v_inn_doorB), (h_from, aI E 8 v_from), (h_inn_falls, aZ E 10 v_inn_falls), (h_inn_creak, aI E 8 v_inn_creak), (h_inn_listens, aI E 3 v_inn_listens), (h_far, aI E 64 v_far), (h_inn_isCold, aZ E 8 v_inn_isCold), (h_inn_met, aI E 16 v_inn_met)]
def BX12_passes_13 (v_inn_sleepers : Int32) (N : Nat) (v_inn_rooms : Int32) (v_inn_doors : Int32) (v_inn_listeners : Int32) (v_inn_isTold : Nat → Int32) (v_inn_act : Nat → Int32) (v_inn_then : Nat → Int32) (v_inn_what : Nat → Int32) (v_inn_doorA : Nat → Int32) (v_inn_doorB : Nat → Int32) (v_inn_falls : Nat → Int32) (v_inn_creak : Nat → Int32) (v_inn_listens : Nat → Int32) (v_far : Nat → Int32) (v_inn_isCold : Nat → Int32) (v_inn_met : Nat → Int32) (rec13 : (Int32 × (Nat → Int32) × (Nat → Int32)) → Option ((Nat → Int32) × (Nat → Int32))) : (Int32 × (Nat → Int32) × (Nat → Int32)) → Option ((Nat → Int32) × (Nat → Int32)) := un3 fun (x13_1 : Int32) (x13_w : Nat → Int32) (x13_from : Nat → Int32) => if v_inn_sleepers ≤ x13_1 then (some (x13_w, x13_from)) else (gd (9 + x13_1) 51 (jn (un2 fun (x41_w : Nat → Int32) (x41_from : Nat → Int32) => rec13 (x13_1 + 1, x41_w, x41_from)) (fun j41 => if (x13_w (9 + x13_1).toNatClampNeg) = 0 then ((fX12_acts N x13_1 x13_w v_inn_rooms v_inn_doors v_inn_sleepers v_inn_listeners v_inn_isTold v_inn_act v_inn_then v_inn_what v_inn_doorA v_inn_doorB x13_from v_inn_falls v_inn_creak v_inn_listens v_far v_inn_isCold v_inn_met).bind (un2 fun (v_w_38 : Nat → Int32) (v_from_38 : Nat → Int32) => j41 (v_w_38, v_from_38))) else (j41 (x13_w, x13_from)))))
def fX12_passes (N : Nat) (v_w : Nat → Int32) (v_inn_rooms : Int32) (v_inn_doors : Int32) (v_inn_sleepers : Int32) (v_inn_listeners : Int32) (v_inn_isTold : Nat → Int32) (v_inn_act : Nat → Int32) (v_inn_then : Nat → Int32) (v_inn_what : Nat → Int32) (v_inn_doorA : Nat → Int32) (v_inn_doorB : Nat → Int32) (v_from : Nat → Int32) (v_inn_falls : Nat → Int32) (v_inn_creak : Nat → Int32) (v_inn_listens : Nat → Int32) (v_far : Nat → Int32) (v_inn_isCold : Nat → Int32) (v_inn_met : Nat → Int32) : Option ((Nat → Int32) × (Nat → Int32)) := gd 49 51 (gd 49 51 (lp (BX12_passes_13 v_inn_sleepers N v_inn_rooms v_inn_doors v_inn_listeners v_inn_isTold v_inn_act v_inn_then v_inn_what v_inn_doorA v_inn_doorB v_inn_falls v_inn_creak v_inn_listens v_far v_inn_isCold v_inn_met) N (0, upd v_w (49 : Int32).toNatClampNeg ((v_w (49 : Int32).toNatClampNeg) + 1), v_from)))
set_option maxHeartbeats 4000000 in
set_option maxRecDepth 100000 in
theorem ctX12_passes (l : Launch) (E : EN) (h h_inn h_tape h_far h_from h_real h_other h_kept h_set h_w h_book h_noteSort h_whose h_what h_noteIs h_fitting h_dawn h_likes h_walked h_came h_inn_creak h_inn_doorA h_inn_doorB h_inn_how h_inn_lies h_inn_isCold h_inn_falls h_inn_isFull h_inn_isTold h_inn_act h_inn_what h_inn_then h_inn_met h_inn_bed h_inn_dream h_inn_listens h_inn_name h_inn_nameSort h_inn_nameNumber : Nat) (v_thrown : Int32) (v_trouble : Int32) (v_where : Int32) (v_read : Option Nat) (v_taped : Int32) (v_size : Int32) (v_at : Int32) (v_sort : Int32) (v_place : Int32) (v_sign : Int32) (v_number : Int32) (v_fault : Int32) (v_wrongAt : Int32) (v_word : Int64) (v_marks : Int32) (v_notes : Int32) (v_w : Nat → Int32) (v_inn_minutes : Int32) (v_inn_rooms : Int32) (v_inn_doors : Int32) (v_inn_things : Int32) (v_inn_dreams : Int32) (v_inn_sleepers : Int32) (v_inn_listeners : Int32) (v_inn_names : Int32) (v_inn_isTold : Nat → Int32) (v_inn_act : Nat → Int32) (v_inn_then : Nat → Int32) (v_inn_what : Nat → Int32) (v_inn_doorA : Nat → Int32) (v_inn_doorB : Nat → Int32) (v_from : Nat → Int32) (v_inn_falls : Nat → Int32) (v_inn_creak : Nat → Int32) (v_inn_listens : Nat → Int32) (v_far : Nat → Int32) (v_inn_isCold : Nat → Int32) (v_inn_met : Nat → Int32) (N : Nat) (z : (Nat → Int32) × (Nat → Int32)) (hf : fX12_passes N v_w v_inn_rooms v_inn_doors v_inn_sleepers v_inn_listeners v_inn_isTold v_inn_act v_inn_then v_inn_what v_inn_doorA v_inn_doorB v_from v_inn_falls v_inn_creak v_inn_listens v_far v_inn_isCold v_inn_met = some z) : CTv l E yX12_passes cX12_passes 2 4 95 [.ref h] (wX12_passes E h h_inn h_tape h_far h_from h_real h_other h_kept h_set h_w h_book h_noteSort h_whose h_what h_noteIs h_fitting h_dawn h_likes h_walked h_came h_inn_creak h_inn_doorA h_inn_doorB h_inn_how h_inn_lies h_inn_isCold h_inn_falls h_inn_isFull h_inn_isTold h_inn_act h_inn_what h_inn_then h_inn_met h_inn_bed h_inn_dream h_inn_listens h_inn_name h_inn_nameSort h_inn_nameNumber v_thrown v_trouble v_where v_read v_taped v_size v_at v_sort v_place v_sign v_number v_fault v_wrongAt v_word v_marks v_notes v_w v_inn_minutes v_inn_rooms v_inn_doors v_inn_things v_inn_dreams v_inn_sleepers v_inn_listeners v_inn_names v_inn_isTold v_inn_act v_inn_then v_inn_what v_inn_doorA v_inn_doorB v_from v_inn_falls v_inn_creak v_inn_listens v_far v_inn_isCold v_inn_met) (wX12_passes E h h_inn h_tape h_far h_from h_real h_other h_kept h_set h_w h_book h_noteSort h_whose h_what h_noteIs h_fitting h_dawn h_likes h_walked h_came h_inn_creak h_inn_doorA h_inn_doorB h_inn_how h_inn_lies h_inn_isCold h_inn_falls h_inn_isFull h_inn_isTold h_inn_act h_inn_what h_inn_then h_inn_met h_inn_bed h_inn_dream h_inn_listens h_inn_name h_inn_nameSort h_inn_nameNumber v_thrown v_trouble v_where v_read v_taped v_size v_at v_sort v_place v_sign v_number v_fault v_wrongAt v_word v_marks v_notes z.1 v_inn_minutes v_inn_rooms v_inn_doors v_inn_things v_inn_dreams v_inn_sleepers v_inn_listeners v_inn_names v_inn_isTold v_inn_act v_inn_then v_inn_what v_inn_doorA v_inn_doorB z.2 v_inn_falls v_inn_creak v_inn_listens v_far v_inn_isCold v_inn_met) := by
  intro sz
  refine ct_body (by decide) (Nat.le_of_ble_eq_true rfl) ?_
  intro p e s m args below meth c A ls hAe C hr hin hP hD hS hl
  have C : CX p s m args meth c cX12_passes RX12 2 E A := C
  have hl : lv_has ls 2 [(0, .ref h)] := hl
  have hx := C.1
  have hb := C.2.1
  rw [hAe]
  clear hAe
  obtain ⟨Q, hQ⟩ : ∃ Q, Q = MQ below (Qv E A (wX12_passes E h h_inn h_tape h_far h_from h_real h_other h_kept h_set h_w h_book h_noteSort h_whose h_what h_noteIs h_fitting h_dawn h_likes h_walked h_came h_inn_creak h_inn_doorA h_inn_doorB h_inn_how h_inn_lies h_inn_isCold h_inn_falls h_inn_isFull h_inn_isTold h_inn_act h_inn_what h_inn_then h_inn_met h_inn_bed h_inn_dream h_inn_listens h_inn_name h_inn_nameSort h_inn_nameNumber v_thrown v_trouble v_where v_read v_taped v_size v_at v_sort v_place v_sign v_number v_fault v_wrongAt v_word v_marks v_notes z.1 v_inn_minutes v_inn_rooms v_inn_doors v_inn_things v_inn_dreams v_inn_sleepers v_inn_listeners v_inn_names v_inn_isTold v_inn_act v_inn_then v_inn_what v_inn_doorA v_inn_doorB z.2 v_inn_falls v_inn_creak v_inn_listens v_far v_inn_isCold v_inn_met)) args s 0 0 A := ⟨_, rfl⟩
  rw [← hQ]
  unfold fX12_passes at hf
  refine lv_aload_n (pc := 0) hx hb dX12_passes_0 rfl (lv_at hl 0 rfl) ?_
  refine r_get (pc := 1) C hP 0 rfl fl_X12_36 rfl dX12_passes_1 ?_
  refine lv_bipush (pc := 4) (v := 49) hx hb dX12_passes_4 (by decide) ?_
  refine lv_dup2_11 (pc := 6) hx hb dX12_passes_6 rfl rfl ?_
  obtain ⟨hi_7, hf⟩ := gd_s hf
  refine r_iald (pc := 7) C hP 1 rfl hi_7 dX12_passes_7 ?_
  refine lv_iconst (pc := 8) (v := 1) hx hb dX12_passes_8 (by decide) ?_
  refine lv_iadd (pc := 9) hx hb dX12_passes_9 ?_
  obtain ⟨hi_10, hf⟩ := gd_s hf
  refine r_iast (pc := 10) (ws' := (wX12_passes E h h_inn h_tape h_far h_from h_real h_other h_kept h_set h_w h_book h_noteSort h_whose h_what h_noteIs h_fitting h_dawn h_likes h_walked h_came h_inn_creak h_inn_doorA h_inn_doorB h_inn_how h_inn_lies h_inn_isCold h_inn_falls h_inn_isFull h_inn_isTold h_inn_act h_inn_what h_inn_then h_inn_met h_inn_bed h_inn_dream h_inn_listens h_inn_name h_inn_nameSort h_inn_nameNumber v_thrown v_trouble v_where v_read v_taped v_size v_at v_sort v_place v_sign v_number v_fault v_wrongAt v_word v_marks v_notes (upd v_w (49 : Int32).toNatClampNeg ((v_w (49 : Int32).toNatClampNeg) + 1)) v_inn_minutes v_inn_rooms v_inn_doors v_inn_things v_inn_dreams v_inn_sleepers v_inn_listeners v_inn_names v_inn_isTold v_inn_act v_inn_then v_inn_what v_inn_doorA v_inn_doorB v_from v_inn_falls v_inn_creak v_inn_listens v_far v_inn_isCold v_inn_met)) C hP hD hS 1 rfl hi_10 rfl dX12_passes_10 ?_
  clear hP hD hS; intro H locs hP hD hS
  refine lv_iconst (pc := 11) (v := 0) hx hb dX12_passes_11 (by decide) ?_
  refine lv_istore_n (pc := 12) (lv' := [(1, .int 0), (0, .ref h)]) hx hb dX12_passes_12 rfl hl (by decide) rfl (fun ls hl => ?_)
  have key13 : ∀ (n : Nat) (x13_1 : Int32) (x13_w : Nat → Int32) (x13_from : Nat → Int32) , lp (BX12_passes_13 v_inn_sleepers N v_inn_rooms v_inn_doors v_inn_listeners v_inn_isTold v_inn_act v_inn_then v_inn_what v_inn_doorA v_inn_doorB v_inn_falls v_inn_creak v_inn_listens v_far v_inn_isCold v_inn_met) n (x13_1, x13_w, x13_from) = some z → AT p l e (rmOf 4 95) s m args below meth c E A Q 0 0 2 [(0, .ref h), (1, .int x13_1)] (wX12_passes E h h_inn h_tape h_far h_from h_real h_other h_kept h_set h_w h_book h_noteSort h_whose h_what h_noteIs h_fitting h_dawn h_likes h_walked h_came h_inn_creak h_inn_doorA h_inn_doorB h_inn_how h_inn_lies h_inn_isCold h_inn_falls h_inn_isFull h_inn_isTold h_inn_act h_inn_what h_inn_then h_inn_met h_inn_bed h_inn_dream h_inn_listens h_inn_name h_inn_nameSort h_inn_nameNumber v_thrown v_trouble v_where v_read v_taped v_size v_at v_sort v_place v_sign v_number v_fault v_wrongAt v_word v_marks v_notes x13_w v_inn_minutes v_inn_rooms v_inn_doors v_inn_things v_inn_dreams v_inn_sleepers v_inn_listeners v_inn_names v_inn_isTold v_inn_act v_inn_then v_inn_what v_inn_doorA v_inn_doorB x13_from v_inn_falls v_inn_creak v_inn_listens v_far v_inn_isCold v_inn_met) 13 [] := by
    intro n
    induction n with
    | zero => intro x13_1 x13_w x13_from hf; exact (lp_0 hf).elim
    | succ n ih13 =>
      intro x13_1 x13_w x13_from hf H locs ls hl hP hD hS
      replace hf := lp_s hf
      generalize lp (BX12_passes_13 v_inn_sleepers N v_inn_rooms v_inn_doors v_inn_listeners v_inn_isTold v_inn_act v_inn_then v_inn_what v_inn_doorA v_inn_doorB v_inn_falls v_inn_creak v_inn_listens v_far v_inn_isCold v_inn_met) n = rec13 at ih13 hf
      unfold BX12_passes_13 at hf
      replace hf := un3_s hf
      refine lv_iload_n (pc := 13) hx hb dX12_passes_13 rfl (lv_at hl 1 rfl) ?_
      refine lv_aload_n (pc := 14) hx hb dX12_passes_14 rfl (lv_at hl 0 rfl) ?_
      refine r_get (pc := 15) C hP 0 rfl fl_X12_358 rfl dX12_passes_15 ?_
      refine r_get (pc := 18) C hP 2 rfl fl_X12_247 rfl dX12_passes_18 ?_
      refine lv_icmp_ge (pc := 21) (tgt := 47) hx hb dX12_passes_21 (by decide) (fun c_21 => ?_) (fun c_21 => ?_)
      · replace hf := it_t c_21 hf
        cases hf
        rw [hQ]
        exact r_vret C hr hP hD hS dX12_passes_47
      · replace hf := it_f c_21 hf
        refine lv_aload_n (pc := 24) hx hb dX12_passes_24 rfl (lv_at hl 0 rfl) ?_
        refine r_get (pc := 25) C hP 0 rfl fl_X12_36 rfl dX12_passes_25 ?_
        refine lv_bipush (pc := 28) (v := 9) hx hb dX12_passes_28 (by decide) ?_
        refine lv_iload_n (pc := 30) hx hb dX12_passes_30 rfl (lv_at hl 1 rfl) ?_
        refine lv_iadd (pc := 31) hx hb dX12_passes_31 ?_
        obtain ⟨hi_32, hf⟩ := gd_s hf
        refine r_iald (pc := 32) C hP 1 rfl hi_32 dX12_passes_32 ?_
        refine jnK hf (fun j41 ej41 hf => ?_)
        have hj41 : ∀ (x41_w : Nat → Int32) (x41_from : Nat → Int32) , j41 (x41_w, x41_from) = some z → AT p l e (rmOf 4 95) s m args below meth c E A Q 0 0 2 [(0, .ref h), (1, .int x13_1)] (wX12_passes E h h_inn h_tape h_far h_from h_real h_other h_kept h_set h_w h_book h_noteSort h_whose h_what h_noteIs h_fitting h_dawn h_likes h_walked h_came h_inn_creak h_inn_doorA h_inn_doorB h_inn_how h_inn_lies h_inn_isCold h_inn_falls h_inn_isFull h_inn_isTold h_inn_act h_inn_what h_inn_then h_inn_met h_inn_bed h_inn_dream h_inn_listens h_inn_name h_inn_nameSort h_inn_nameNumber v_thrown v_trouble v_where v_read v_taped v_size v_at v_sort v_place v_sign v_number v_fault v_wrongAt v_word v_marks v_notes x41_w v_inn_minutes v_inn_rooms v_inn_doors v_inn_things v_inn_dreams v_inn_sleepers v_inn_listeners v_inn_names v_inn_isTold v_inn_act v_inn_then v_inn_what v_inn_doorA v_inn_doorB x41_from v_inn_falls v_inn_creak v_inn_listens v_far v_inn_isCold v_inn_met) 41 [] := by
          intro x41_w x41_from hf H locs ls hl hP hD hS
          rw [ej41] at hf
          replace hf := un2_s hf
          refine lv_iinc (pc := 41) (v := x13_1 + 1) (lv' := [(1, .int (x13_1 + 1)), (0, .ref h)]) hx hb dX12_passes_41 hl (k := 1) rfl rfl (by decide) rfl (fun ls hl => ?_)
          refine lv_goto (pc := 44) (tgt := 13) hx hb dX12_passes_44 (by decide) ?_
          exact ih13 (x13_1 + 1) x41_w x41_from hf _ _ _ (lv_sub hl [1, 0] rfl) hP hD hS
        clear ej41
        refine lv_if_ne (pc := 33) (tgt := 41) hx hb dX12_passes_33 (by decide) (fun c_33 => ?_) (fun c_33 => ?_)
        · replace hf := it_f c_33 hf
          exact hj41 x13_w x13_from hf _ _ _ (lv_sub hl [0, 1] rfl) hP hD hS
        · replace hf := it_t c_33 hf
          refine lv_aload_n (pc := 36) hx hb dX12_passes_36 rfl (lv_at hl 0 rfl) ?_
          refine lv_iload_n (pc := 37) hx hb dX12_passes_37 rfl (lv_at hl 1 rfl) ?_
          obtain ⟨v_w_38, v_from_38, hc_38, hf⟩ := bd2 hf
          refine r_dalVv (pc := 38) (ws' := (wX12_passes E h h_inn h_tape h_far h_from h_real h_other h_kept h_set h_w h_book h_noteSort h_whose h_what h_noteIs h_fitting h_dawn h_likes h_walked h_came h_inn_creak h_inn_doorA h_inn_doorB h_inn_how h_inn_lies h_inn_isCold h_inn_falls h_inn_isFull h_inn_isTold h_inn_act h_inn_what h_inn_then h_inn_met h_inn_bed h_inn_dream h_inn_listens h_inn_name h_inn_nameSort h_inn_nameNumber v_thrown v_trouble v_where v_read v_taped v_size v_at v_sort v_place v_sign v_number v_fault v_wrongAt v_word v_marks v_notes v_w_38 v_inn_minutes v_inn_rooms v_inn_doors v_inn_things v_inn_dreams v_inn_sleepers v_inn_listeners v_inn_names v_inn_isTold v_inn_act v_inn_then v_inn_what v_inn_doorA v_inn_doorB v_from_38 v_inn_falls v_inn_creak v_inn_listens v_far v_inn_isCold v_inn_met)) (As := [.int x13_1]) (rest := []) C (ctX12_acts l E h h_inn h_tape h_far h_from h_real h_other h_kept h_set h_w h_book h_noteSort h_whose h_what h_noteIs h_fitting h_dawn h_likes h_walked h_came h_inn_creak h_inn_doorA h_inn_doorB h_inn_how h_inn_lies h_inn_isCold h_inn_falls h_inn_isFull h_inn_isTold h_inn_act h_inn_what h_inn_then h_inn_met h_inn_bed h_inn_dream h_inn_listens h_inn_name h_inn_nameSort h_inn_nameNumber v_thrown v_trouble v_where v_read v_taped v_size v_at v_sort v_place v_sign v_number v_fault v_wrongAt v_word v_marks v_notes x13_w v_inn_minutes v_inn_rooms v_inn_doors v_inn_things v_inn_dreams v_inn_sleepers v_inn_listeners v_inn_names v_inn_isTold v_inn_act v_inn_then v_inn_what v_inn_doorA v_inn_doorB x13_from v_inn_falls v_inn_creak v_inn_listens v_far v_inn_isCold v_inn_met N x13_1 (v_w_38, v_from_38) hc_38) ml_X12_409 ⟨Nat.le_of_ble_eq_true rfl, Nat.le_of_ble_eq_true rfl⟩ hP hD hS 0 rfl rfl rfl [0, 1, 2, 3, 4, 5, 6, 7, 8, 9, 10, 11, 12, 13, 14, 15] [16, 17, 18, 19, 20, 21, 22, 23, 24, 25, 26, 27, 28, 29, 30, 31] 16 rfl rfl rfl rfl rfl rfl rfl hl.1 rfl (Nat.le_of_ble_eq_true rfl) ⟨Nat.zero_le _, Nat.zero_le _⟩ dX12_passes_38 ?_
          clear hP hD hS; intro H locs hP hD hS
          exact hj41 v_w_38 v_from_38 hf _ _ _ (lv_sub hl [0, 1] rfl) hP hD hS
  exact key13 _ 0 (upd v_w (49 : Int32).toNatClampNeg ((v_w (49 : Int32).toNatClampNeg) + 1)) v_from hf _ _ _ (lv_sub hl [1, 0] rfl) hP hD hS
def wX12_nightfall (E : EN) (h h_inn h_tape h_far h_from h_real h_other h_kept h_set h_w h_book h_noteSort h_whose h_what h_noteIs h_fitting h_dawn h_likes h_walked h_came h_inn_creak h_inn_doorA h_inn_doorB h_inn_how h_inn_lies h_inn_isCold h_inn_falls h_inn_isFull h_inn_isTold h_inn_act h_inn_what h_inn_then h_inn_met h_inn_bed h_inn_dream h_inn_listens h_inn_name h_inn_nameSort h_inn_nameNumber : Nat) (v_thrown : Int32) (v_trouble : Int32) (v_where : Int32) (v_read : Option Nat) (v_taped : Int32) (v_size : Int32) (v_at : Int32) (v_sort : Int32) (v_place : Int32) (v_sign : Int32) (v_number : Int32) (v_fault : Int32) (v_wrongAt : Int32) (v_word : Int64) (v_marks : Int32) (v_notes : Int32) (v_inn_minutes : Int32) (v_inn_rooms : Int32) (v_inn_doors : Int32) (v_inn_things : Int32) (v_inn_dreams : Int32) (v_inn_sleepers : Int32) (v_inn_listeners : Int32) (v_inn_names : Int32) (v_w : Nat → Int32) (v_inn_how : Nat → Int32) (v_inn_lies : Nat → Int32) (v_inn_isFull : Nat → Int32) (v_inn_bed : Nat → Int32) (v_set : Nat → Int32) : va_W := [(h, .inr (11, [.int v_thrown, .int v_trouble, .int v_where, .ref h_inn, va_rf v_read, .ref h_tape, .int v_taped, .int v_size, .int v_at, .int v_sort, .int v_place, .int v_sign, .int v_number, .int v_fault, .int v_wrongAt, .long v_word, .ref h_far, .ref h_from, .ref h_real, .ref h_other, .ref h_kept, .ref h_set, .ref h_w, .int v_marks, .int v_notes, .ref h_book, .ref h_noteSort, .ref h_whose, .ref h_what, .ref h_noteIs, .ref h_fitting, .ref h_dawn, .ref h_likes, .ref h_walked, .ref h_came])), (h_inn, .inr (10, [.int v_inn_minutes, .int v_inn_rooms, .int v_inn_doors, .int v_inn_things, .int v_inn_dreams, .int v_inn_sleepers, .int v_inn_listeners, .int v_inn_names, .ref h_inn_creak, .ref h_inn_doorA, .ref h_inn_doorB, .ref h_inn_how, .ref h_inn_lies, .ref h_inn_isCold, .ref h_inn_falls, .ref h_inn_isFull, .ref h_inn_isTold, .ref h_inn_act, .ref h_inn_what, .ref h_inn_then, .ref h_inn_met, .ref h_inn_bed, .ref h_inn_dream, .ref h_inn_listens, .ref h_inn_name, .ref h_inn_nameSort, .ref h_inn_nameNumber])), (h_w, aI E 51 v_w), (h_inn_how, aI E 10 v_inn_how), (h_inn_lies, aI E 4 v_inn_lies), (h_inn_isFull, aZ E 4 v_inn_isFull), (h_inn_bed, aI E 3 v_inn_bed), (h_set, aI E 3 v_set)]
def BX12_nightfall_26 (v_inn_sleepers : Int32) (N : Nat) (v_set : Nat → Int32) (rec26 : (Int32 × (Nat → Int32)) → Option (Int32 × Int32 × Int32 × Int32 × (Nat → Int32))) : (Int32 × (Nat → Int32)) → Option (Int32 × Int32 × Int32 × Int32 × (Nat → Int32)) := un2 fun (x26_2 : Int32) (x26_w : Nat → Int32) => if v_inn_sleepers ≤ x26_2 then ((fX12_granted N).bind (un3 fun (r_59 : Int32) (v_trouble_59 : Int32) (v_where_59 : Int32) => zg r_59 (some (r_59, 0, v_trouble_59, v_where_59, x26_w)))) else (gd x26_2 3 (gd (12 + x26_2) 51 (rec26 (x26_2 + 1, upd x26_w (12 + x26_2).toNatClampNeg (v_set x26_2.toNatClampNeg)))))
def fX12_nightfall (N : Nat) (p0 : Int32) (v_inn_doors : Int32) (v_inn_things : Int32) (v_inn_sleepers : Int32) (v_w : Nat → Int32) (v_inn_how : Nat → Int32) (v_inn_lies : Nat → Int32) (v_inn_isFull : Nat → Int32) (v_inn_bed : Nat → Int32) (v_set : Nat → Int32) : Option (Int32 × Int32 × Int32 × Int32 × (Nat → Int32)) := (fX12_isSetting N p0 v_inn_doors).bind (un1 fun (r_7 : Int32) => if r_7 = 0 then ((fX12_denied N 1).bind (un3 fun (r_15 : Int32) (v_trouble_15 : Int32) (v_where_15 : Int32) => zg r_15 (some (r_15, 0, v_trouble_15, v_where_15, v_w)))) else ((fX12_fallsNight N p0 v_inn_doors v_inn_things v_inn_sleepers v_w v_inn_how v_inn_lies v_inn_isFull v_inn_bed).bind (un1 fun (v_w_21 : Nat → Int32) => lp (BX12_nightfall_26 v_inn_sleepers N v_set) N (0, v_w_21))))
set_option maxHeartbeats 4000000 in
set_option maxRecDepth 100000 in
theorem ctX12_nightfall (l : Launch) (E : EN) (h h_inn h_tape h_far h_from h_real h_other h_kept h_set h_w h_book h_noteSort h_whose h_what h_noteIs h_fitting h_dawn h_likes h_walked h_came h_inn_creak h_inn_doorA h_inn_doorB h_inn_how h_inn_lies h_inn_isCold h_inn_falls h_inn_isFull h_inn_isTold h_inn_act h_inn_what h_inn_then h_inn_met h_inn_bed h_inn_dream h_inn_listens h_inn_name h_inn_nameSort h_inn_nameNumber : Nat) (v_thrown : Int32) (v_trouble : Int32) (v_where : Int32) (v_read : Option Nat) (v_taped : Int32) (v_size : Int32) (v_at : Int32) (v_sort : Int32) (v_place : Int32) (v_sign : Int32) (v_number : Int32) (v_fault : Int32) (v_wrongAt : Int32) (v_word : Int64) (v_marks : Int32) (v_notes : Int32) (v_inn_minutes : Int32) (v_inn_rooms : Int32) (v_inn_doors : Int32) (v_inn_things : Int32) (v_inn_dreams : Int32) (v_inn_sleepers : Int32) (v_inn_listeners : Int32) (v_inn_names : Int32) (v_w : Nat → Int32) (v_inn_how : Nat → Int32) (v_inn_lies : Nat → Int32) (v_inn_isFull : Nat → Int32) (v_inn_bed : Nat → Int32) (v_set : Nat → Int32) (N : Nat) (p0 : Int32) (z : Int32 × Int32 × Int32 × Int32 × (Nat → Int32)) (hf : fX12_nightfall N p0 v_inn_doors v_inn_things v_inn_sleepers v_w v_inn_how v_inn_lies v_inn_isFull v_inn_bed v_set = some z) : CTi l E yX12_nightfall cX12_nightfall 3 .boolean 2 44 [.ref h, .int p0] (wX12_nightfall E h h_inn h_tape h_far h_from h_real h_other h_kept h_set h_w h_book h_noteSort h_whose h_what h_noteIs h_fitting h_dawn h_likes h_walked h_came h_inn_creak h_inn_doorA h_inn_doorB h_inn_how h_inn_lies h_inn_isCold h_inn_falls h_inn_isFull h_inn_isTold h_inn_act h_inn_what h_inn_then h_inn_met h_inn_bed h_inn_dream h_inn_listens h_inn_name h_inn_nameSort h_inn_nameNumber v_thrown v_trouble v_where v_read v_taped v_size v_at v_sort v_place v_sign v_number v_fault v_wrongAt v_word v_marks v_notes v_inn_minutes v_inn_rooms v_inn_doors v_inn_things v_inn_dreams v_inn_sleepers v_inn_listeners v_inn_names v_w v_inn_how v_inn_lies v_inn_isFull v_inn_bed v_set) (z.1) (wX12_nightfall E h h_inn h_tape h_far h_from h_real h_other h_kept h_set h_w h_book h_noteSort h_whose h_what h_noteIs h_fitting h_dawn h_likes h_walked h_came h_inn_creak h_inn_doorA h_inn_doorB h_inn_how h_inn_lies h_inn_isCold h_inn_falls h_inn_isFull h_inn_isTold h_inn_act h_inn_what h_inn_then h_inn_met h_inn_bed h_inn_dream h_inn_listens h_inn_name h_inn_nameSort h_inn_nameNumber z.2.1 z.2.2.1 z.2.2.2.1 v_read v_taped v_size v_at v_sort v_place v_sign v_number v_fault v_wrongAt v_word v_marks v_notes v_inn_minutes v_inn_rooms v_inn_doors v_inn_things v_inn_dreams v_inn_sleepers v_inn_listeners v_inn_names z.2.2.2.2 v_inn_how v_inn_lies v_inn_isFull v_inn_bed v_set) := by
  intro sz
  refine ct_body (by decide) (Nat.le_of_ble_eq_true rfl) ?_
  intro p e s m args below meth c A ls hAe C hr hin hP hD hS hl
  have C : CX p s m args meth c cX12_nightfall RX12 3 E A := C
  have hl : lv_has ls 3 [(0, .ref h), (1, .int p0)] := hl
  have hx := C.1
  have hb := C.2.1
  rw [hAe]
  clear hAe
  obtain ⟨Q, hQ⟩ : ∃ Q, Q = MQ below (Qi E A (z.1) (wX12_nightfall E h h_inn h_tape h_far h_from h_real h_other h_kept h_set h_w h_book h_noteSort h_whose h_what h_noteIs h_fitting h_dawn h_likes h_walked h_came h_inn_creak h_inn_doorA h_inn_doorB h_inn_how h_inn_lies h_inn_isCold h_inn_falls h_inn_isFull h_inn_isTold h_inn_act h_inn_what h_inn_then h_inn_met h_inn_bed h_inn_dream h_inn_listens h_inn_name h_inn_nameSort h_inn_nameNumber z.2.1 z.2.2.1 z.2.2.2.1 v_read v_taped v_size v_at v_sort v_place v_sign v_number v_fault v_wrongAt v_word v_marks v_notes v_inn_minutes v_inn_rooms v_inn_doors v_inn_things v_inn_dreams v_inn_sleepers v_inn_listeners v_inn_names z.2.2.2.2 v_inn_how v_inn_lies v_inn_isFull v_inn_bed v_set)) args s 0 0 A := ⟨_, rfl⟩
  rw [← hQ]
  unfold fX12_nightfall at hf
  refine lv_aload_n (pc := 0) hx hb dX12_nightfall_0 rfl (lv_at hl 0 rfl) ?_
  refine lv_iconst (pc := 1) (v := 0) hx hb dX12_nightfall_1 (by decide) ?_
  refine r_put (pc := 2) (ws' := (wX12_nightfall E h h_inn h_tape h_far h_from h_real h_other h_kept h_set h_w h_book h_noteSort h_whose h_what h_noteIs h_fitting h_dawn h_likes h_walked h_came h_inn_creak h_inn_doorA h_inn_doorB h_inn_how h_inn_lies h_inn_isCold h_inn_falls h_inn_isFull h_inn_isTold h_inn_act h_inn_what h_inn_then h_inn_met h_inn_bed h_inn_dream h_inn_listens h_inn_name h_inn_nameSort h_inn_nameNumber 0 v_trouble v_where v_read v_taped v_size v_at v_sort v_place v_sign v_number v_fault v_wrongAt v_word v_marks v_notes v_inn_minutes v_inn_rooms v_inn_doors v_inn_things v_inn_dreams v_inn_sleepers v_inn_listeners v_inn_names v_w v_inn_how v_inn_lies v_inn_isFull v_inn_bed v_set)) C hP hD hS 0 rfl fl_X12_71 rfl rfl (Nat.le_of_ble_eq_true rfl) rfl dX12_nightfall_2 ?_
  clear hP hD hS; intro H locs hP hD hS
  refine lv_aload_n (pc := 5) hx hb dX12_nightfall_5 rfl (lv_at hl 0 rfl) ?_
  refine lv_iload_n (pc := 6) hx hb dX12_nightfall_6 rfl (lv_at hl 1 rfl) ?_
  obtain ⟨r_7, hc_7, hf⟩ := bd1 hf
  refine r_dalVi (pc := 7) (ws' := (wX12_nightfall E h h_inn h_tape h_far h_from h_real h_other h_kept h_set h_w h_book h_noteSort h_whose h_what h_noteIs h_fitting h_dawn h_likes h_walked h_came h_inn_creak h_inn_doorA h_inn_doorB h_inn_how h_inn_lies h_inn_isCold h_inn_falls h_inn_isFull h_inn_isTold h_inn_act h_inn_what h_inn_then h_inn_met h_inn_bed h_inn_dream h_inn_listens h_inn_name h_inn_nameSort h_inn_nameNumber 0 v_trouble v_where v_read v_taped v_size v_at v_sort v_place v_sign v_number v_fault v_wrongAt v_word v_marks v_notes v_inn_minutes v_inn_rooms v_inn_doors v_inn_things v_inn_dreams v_inn_sleepers v_inn_listeners v_inn_names v_w v_inn_how v_inn_lies v_inn_isFull v_inn_bed v_set)) (As := [.int p0]) (rest := []) C (ctX12_isSetting l E h h_inn h_tape h_far h_from h_real h_other h_kept h_set h_w h_book h_noteSort h_whose h_what h_noteIs h_fitting h_dawn h_likes h_walked h_came h_inn_creak h_inn_doorA h_inn_doorB h_inn_how h_inn_lies h_inn_isCold h_inn_falls h_inn_isFull h_inn_isTold h_inn_act h_inn_what h_inn_then h_inn_met h_inn_bed h_inn_dream h_inn_listens h_inn_name h_inn_nameSort h_inn_nameNumber 0 v_trouble v_where v_read v_taped v_size v_at v_sort v_place v_sign v_number v_fault v_wrongAt v_word v_marks v_notes v_inn_minutes v_inn_rooms v_inn_doors v_inn_things v_inn_dreams v_inn_sleepers v_inn_listeners v_inn_names N p0 r_7 hc_7) ml_X12_412 ⟨Nat.le_of_ble_eq_true rfl, Nat.le_of_ble_eq_true rfl⟩ hP hD hS 0 rfl rfl rfl [0, 1] [8, 9, 2, 3, 4, 5, 6, 7] 8 rfl rfl rfl rfl rfl rfl rfl hl.1 rfl (Nat.le_of_ble_eq_true rfl) ⟨Nat.zero_le _, Nat.zero_le _⟩ dX12_nightfall_7 ?_
  clear hP hD hS; intro H locs hP hD hS
  refine lv_if_ne (pc := 10) (tgt := 19) hx hb dX12_nightfall_10 (by decide) (fun c_10 => ?_) (fun c_10 => ?_)
  · replace hf := it_f c_10 hf
    refine lv_aload_n (pc := 19) hx hb dX12_nightfall_19 rfl (lv_at hl 0 rfl) ?_
    refine lv_iload_n (pc := 20) hx hb dX12_nightfall_20 rfl (lv_at hl 1 rfl) ?_
    obtain ⟨v_w_21, hc_21, hf⟩ := bd1 hf
    refine r_dalVv (pc := 21) (ws' := (wX12_nightfall E h h_inn h_tape h_far h_from h_real h_other h_kept h_set h_w h_book h_noteSort h_whose h_what h_noteIs h_fitting h_dawn h_likes h_walked h_came h_inn_creak h_inn_doorA h_inn_doorB h_inn_how h_inn_lies h_inn_isCold h_inn_falls h_inn_isFull h_inn_isTold h_inn_act h_inn_what h_inn_then h_inn_met h_inn_bed h_inn_dream h_inn_listens h_inn_name h_inn_nameSort h_inn_nameNumber 0 v_trouble v_where v_read v_taped v_size v_at v_sort v_place v_sign v_number v_fault v_wrongAt v_word v_marks v_notes v_inn_minutes v_inn_rooms v_inn_doors v_inn_things v_inn_dreams v_inn_sleepers v_inn_listeners v_inn_names v_w_21 v_inn_how v_inn_lies v_inn_isFull v_inn_bed v_set)) (As := [.int p0]) (rest := []) C (ctX12_fallsNight l E h h_inn h_tape h_far h_from h_real h_other h_kept h_set h_w h_book h_noteSort h_whose h_what h_noteIs h_fitting h_dawn h_likes h_walked h_came h_inn_creak h_inn_doorA h_inn_doorB h_inn_how h_inn_lies h_inn_isCold h_inn_falls h_inn_isFull h_inn_isTold h_inn_act h_inn_what h_inn_then h_inn_met h_inn_bed h_inn_dream h_inn_listens h_inn_name h_inn_nameSort h_inn_nameNumber 0 v_trouble v_where v_read v_taped v_size v_at v_sort v_place v_sign v_number v_fault v_wrongAt v_word v_marks v_notes v_inn_minutes v_inn_rooms v_inn_doors v_inn_things v_inn_dreams v_inn_sleepers v_inn_listeners v_inn_names v_w v_inn_how v_inn_lies v_inn_isFull v_inn_bed N p0 v_w_21 hc_21) ml_X12_369 ⟨Nat.le_of_ble_eq_true rfl, Nat.le_of_ble_eq_true rfl⟩ hP hD hS 0 rfl rfl rfl [0, 1, 2, 3, 4, 5, 6] [8, 9, 10, 11, 12, 13, 14, 7] 8 rfl rfl rfl rfl rfl rfl rfl hl.1 rfl (Nat.le_of_ble_eq_true rfl) ⟨Nat.zero_le _, Nat.zero_le _⟩ dX12_nightfall_21 ?_
    clear hP hD hS; intro H locs hP hD hS
    refine lv_iconst (pc := 24) (v := 0) hx hb dX12_nightfall_24 (by decide) ?_
    refine lv_istore_n (pc := 25) (lv' := [(2, .int 0), (0, .ref h), (1, .int p0)]) hx hb dX12_nightfall_25 rfl hl (by decide) rfl (fun ls hl => ?_)
    have key26 : ∀ (n : Nat) (x26_2 : Int32) (x26_w : Nat → Int32) , lp (BX12_nightfall_26 v_inn_sleepers N v_set) n (x26_2, x26_w) = some z → AT p l e (rmOf 2 44) s m args below meth c E A Q 0 0 3 [(0, .ref h), (2, .int x26_2)] (wX12_nightfall E h h_inn h_tape h_far h_from h_real h_other h_kept h_set h_w h_book h_noteSort h_whose h_what h_noteIs h_fitting h_dawn h_likes h_walked h_came h_inn_creak h_inn_doorA h_inn_doorB h_inn_how h_inn_lies h_inn_isCold h_inn_falls h_inn_isFull h_inn_isTold h_inn_act h_inn_what h_inn_then h_inn_met h_inn_bed h_inn_dream h_inn_listens h_inn_name h_inn_nameSort h_inn_nameNumber 0 v_trouble v_where v_read v_taped v_size v_at v_sort v_place v_sign v_number v_fault v_wrongAt v_word v_marks v_notes v_inn_minutes v_inn_rooms v_inn_doors v_inn_things v_inn_dreams v_inn_sleepers v_inn_listeners v_inn_names x26_w v_inn_how v_inn_lies v_inn_isFull v_inn_bed v_set) 26 [] := by
      intro n
      induction n with
      | zero => intro x26_2 x26_w hf; exact (lp_0 hf).elim
      | succ n ih26 =>
        intro x26_2 x26_w hf H locs ls hl hP hD hS
        replace hf := lp_s hf
        generalize lp (BX12_nightfall_26 v_inn_sleepers N v_set) n = rec26 at ih26 hf
        unfold BX12_nightfall_26 at hf
        replace hf := un2_s hf
        refine lv_iload_n (pc := 26) hx hb dX12_nightfall_26 rfl (lv_at hl 1 rfl) ?_
        refine lv_aload_n (pc := 27) hx hb dX12_nightfall_27 rfl (lv_at hl 0 rfl) ?_
        refine r_get (pc := 28) C hP 0 rfl fl_X12_358 rfl dX12_nightfall_28 ?_
        refine r_get (pc := 31) C hP 1 rfl fl_X12_247 rfl dX12_nightfall_31 ?_
        refine lv_icmp_ge (pc := 34) (tgt := 58) hx hb dX12_nightfall_34 (by decide) (fun c_34 => ?_) (fun c_34 => ?_)
        · replace hf := it_t c_34 hf
          refine lv_aload_n (pc := 58) hx hb dX12_nightfall_58 rfl (lv_at hl 0 rfl) ?_
          obtain ⟨r_59, v_trouble_59, v_where_59, hc_59, hf⟩ := bd3 hf
          refine r_dalVi (pc := 59) (ws' := (wX12_nightfall E h h_inn h_tape h_far h_from h_real h_other h_kept h_set h_w h_book h_noteSort h_whose h_what h_noteIs h_fitting h_dawn h_likes h_walked h_came h_inn_creak h_inn_doorA h_inn_doorB h_inn_how h_inn_lies h_inn_isCold h_inn_falls h_inn_isFull h_inn_isTold h_inn_act h_inn_what h_inn_then h_inn_met h_inn_bed h_inn_dream h_inn_listens h_inn_name h_inn_nameSort h_inn_nameNumber 0 v_trouble_59 v_where_59 v_read v_taped v_size v_at v_sort v_place v_sign v_number v_fault v_wrongAt v_word v_marks v_notes v_inn_minutes v_inn_rooms v_inn_doors v_inn_things v_inn_dreams v_inn_sleepers v_inn_listeners v_inn_names x26_w v_inn_how v_inn_lies v_inn_isFull v_inn_bed v_set)) (As := []) (rest := []) C (ctX12_granted l E h h_tape h_far h_from h_real h_other h_kept h_set h_w h_book h_noteSort h_whose h_what h_noteIs h_fitting h_dawn h_likes h_walked h_came 0 v_trouble v_where (some h_inn) v_read v_taped v_size v_at v_sort v_place v_sign v_number v_fault v_wrongAt v_word v_marks v_notes N (r_59, v_trouble_59, v_where_59) hc_59) ml_X12_418 ⟨Nat.le_of_ble_eq_true rfl, Nat.le_of_ble_eq_true rfl⟩ hP hD hS 0 rfl rfl rfl [0] [8, 1, 2, 3, 4, 5, 6, 7] 8 rfl rfl rfl rfl rfl rfl rfl hl.1 rfl (Nat.le_of_ble_eq_true rfl) ⟨Nat.zero_le _, Nat.zero_le _⟩ dX12_nightfall_59 ?_
          clear hP hD hS; intro H locs hP hD hS
          obtain ⟨hz_62, hf⟩ := zg_s hf
          cases hf
          rw [hQ]
          exact r_zret C hr hP hD hS hz_62 rfl dX12_nightfall_62
        · replace hf := it_f c_34 hf
          refine lv_aload_n (pc := 37) hx hb dX12_nightfall_37 rfl (lv_at hl 0 rfl) ?_
          refine r_get (pc := 38) C hP 0 rfl fl_X12_36 rfl dX12_nightfall_38 ?_
          refine lv_bipush (pc := 41) (v := 12) hx hb dX12_nightfall_41 (by decide) ?_
          refine lv_iload_n (pc := 43) hx hb dX12_nightfall_43 rfl (lv_at hl 1 rfl) ?_
          refine lv_iadd (pc := 44) hx hb dX12_nightfall_44 ?_
          refine lv_aload_n (pc := 45) hx hb dX12_nightfall_45 rfl (lv_at hl 0 rfl) ?_
          refine r_get (pc := 46) C hP 0 rfl fl_X12_33 rfl dX12_nightfall_46 ?_
          refine lv_iload_n (pc := 49) hx hb dX12_nightfall_49 rfl (lv_at hl 1 rfl) ?_
          obtain ⟨hi_50, hf⟩ := gd_s hf
          refine r_iald (pc := 50) C hP 7 rfl hi_50 dX12_nightfall_50 ?_
          obtain ⟨hi_51, hf⟩ := gd_s hf
          refine r_iast (pc := 51) (ws' := (wX12_nightfall E h h_inn h_tape h_far h_from h_real h_other h_kept h_set h_w h_book h_noteSort h_whose h_what h_noteIs h_fitting h_dawn h_likes h_walked h_came h_inn_creak h_inn_doorA h_inn_doorB h_inn_how h_inn_lies h_inn_isCold h_inn_falls h_inn_isFull h_inn_isTold h_inn_act h_inn_what h_inn_then h_inn_met h_inn_bed h_inn_dream h_inn_listens h_inn_name h_inn_nameSort h_inn_nameNumber 0 v_trouble v_where v_read v_taped v_size v_at v_sort v_place v_sign v_number v_fault v_wrongAt v_word v_marks v_notes v_inn_minutes v_inn_rooms v_inn_doors v_inn_things v_inn_dreams v_inn_sleepers v_inn_listeners v_inn_names (upd x26_w (12 + x26_2).toNatClampNeg (v_set x26_2.toNatClampNeg)) v_inn_how v_inn_lies v_inn_isFull v_inn_bed v_set)) C hP hD hS 2 rfl hi_51 rfl dX12_nightfall_51 ?_
          clear hP hD hS; intro H locs hP hD hS
          refine lv_iinc (pc := 52) (v := x26_2 + 1) (lv' := [(2, .int (x26_2 + 1)), (0, .ref h)]) hx hb dX12_nightfall_52 hl (k := 1) rfl rfl (by decide) rfl (fun ls hl => ?_)
          refine lv_goto (pc := 55) (tgt := 26) hx hb dX12_nightfall_55 (by decide) ?_
          exact ih26 (x26_2 + 1) (upd x26_w (12 + x26_2).toNatClampNeg (v_set x26_2.toNatClampNeg)) hf _ _ _ (lv_sub hl [1, 0] rfl) hP hD hS
    exact key26 _ 0 v_w_21 hf _ _ _ (lv_sub hl [1, 0] rfl) hP hD hS
  · replace hf := it_t c_10 hf
    refine lv_aload_n (pc := 13) hx hb dX12_nightfall_13 rfl (lv_at hl 0 rfl) ?_
    refine lv_iconst (pc := 14) (v := 1) hx hb dX12_nightfall_14 (by decide) ?_
    obtain ⟨r_15, v_trouble_15, v_where_15, hc_15, hf⟩ := bd3 hf
    refine r_dalVi (pc := 15) (ws' := (wX12_nightfall E h h_inn h_tape h_far h_from h_real h_other h_kept h_set h_w h_book h_noteSort h_whose h_what h_noteIs h_fitting h_dawn h_likes h_walked h_came h_inn_creak h_inn_doorA h_inn_doorB h_inn_how h_inn_lies h_inn_isCold h_inn_falls h_inn_isFull h_inn_isTold h_inn_act h_inn_what h_inn_then h_inn_met h_inn_bed h_inn_dream h_inn_listens h_inn_name h_inn_nameSort h_inn_nameNumber 0 v_trouble_15 v_where_15 v_read v_taped v_size v_at v_sort v_place v_sign v_number v_fault v_wrongAt v_word v_marks v_notes v_inn_minutes v_inn_rooms v_inn_doors v_inn_things v_inn_dreams v_inn_sleepers v_inn_listeners v_inn_names v_w v_inn_how v_inn_lies v_inn_isFull v_inn_bed v_set)) (As := [.int 1]) (rest := []) C (ctX12_denied l E h h_tape h_far h_from h_real h_other h_kept h_set h_w h_book h_noteSort h_whose h_what h_noteIs h_fitting h_dawn h_likes h_walked h_came 0 v_trouble v_where (some h_inn) v_read v_taped v_size v_at v_sort v_place v_sign v_number v_fault v_wrongAt v_word v_marks v_notes N 1 (r_15, v_trouble_15, v_where_15) hc_15) ml_X12_415 ⟨Nat.le_of_ble_eq_true rfl, Nat.le_of_ble_eq_true rfl⟩ hP hD hS 0 rfl rfl rfl [0] [8, 1, 2, 3, 4, 5, 6, 7] 8 rfl rfl rfl rfl rfl rfl rfl hl.1 rfl (Nat.le_of_ble_eq_true rfl) ⟨Nat.zero_le _, Nat.zero_le _⟩ dX12_nightfall_15 ?_
    clear hP hD hS; intro H locs hP hD hS
    obtain ⟨hz_18, hf⟩ := zg_s hf
    cases hf
    rw [hQ]
    exact r_zret C hr hP hD hS hz_18 rfl dX12_nightfall_18
def wX12_nightfall0 (E : EN) (h h_tape h_far h_from h_real h_other h_kept h_set h_w h_book h_noteSort h_whose h_what h_noteIs h_fitting h_dawn h_likes h_walked h_came : Nat) (v_thrown : Int32) (v_trouble : Int32) (v_where : Int32) (v_read : Option Nat) (v_taped : Int32) (v_size : Int32) (v_at : Int32) (v_sort : Int32) (v_place : Int32) (v_sign : Int32) (v_number : Int32) (v_fault : Int32) (v_wrongAt : Int32) (v_word : Int64) (v_marks : Int32) (v_notes : Int32) : va_W := [(h, .inr (11, [.int v_thrown, .int v_trouble, .int v_where, .null, va_rf v_read, .ref h_tape, .int v_taped, .int v_size, .int v_at, .int v_sort, .int v_place, .int v_sign, .int v_number, .int v_fault, .int v_wrongAt, .long v_word, .ref h_far, .ref h_from, .ref h_real, .ref h_other, .ref h_kept, .ref h_set, .ref h_w, .int v_marks, .int v_notes, .ref h_book, .ref h_noteSort, .ref h_whose, .ref h_what, .ref h_noteIs, .ref h_fitting, .ref h_dawn, .ref h_likes, .ref h_walked, .ref h_came]))]
def fX12_nightfall0 (N : Nat) : Option (Int32 × Int32 × Int32 × Int32) := (fX12_isSetting0 N).bind (un1 fun (r_7 : Int32) => if r_7 = 0 then ((fX12_denied N 1).bind (un3 fun (r_15 : Int32) (v_trouble_15 : Int32) (v_where_15 : Int32) => zg r_15 (some (r_15, 0, v_trouble_15, v_where_15)))) else (none))
set_option maxHeartbeats 4000000 in
set_option maxRecDepth 100000 in
theorem ctX12_nightfall0 (l : Launch) (E : EN) (h h_tape h_far h_from h_real h_other h_kept h_set h_w h_book h_noteSort h_whose h_what h_noteIs h_fitting h_dawn h_likes h_walked h_came : Nat) (v_thrown : Int32) (v_trouble : Int32) (v_where : Int32) (v_read : Option Nat) (v_taped : Int32) (v_size : Int32) (v_at : Int32) (v_sort : Int32) (v_place : Int32) (v_sign : Int32) (v_number : Int32) (v_fault : Int32) (v_wrongAt : Int32) (v_word : Int64) (v_marks : Int32) (v_notes : Int32) (N : Nat) (p0 : Int32) (z : Int32 × Int32 × Int32 × Int32) (hf : fX12_nightfall0 N  = some z) : CTi l E yX12_nightfall cX12_nightfall 3 .boolean 2 42 [.ref h, .int p0] (wX12_nightfall0 E h h_tape h_far h_from h_real h_other h_kept h_set h_w h_book h_noteSort h_whose h_what h_noteIs h_fitting h_dawn h_likes h_walked h_came v_thrown v_trouble v_where v_read v_taped v_size v_at v_sort v_place v_sign v_number v_fault v_wrongAt v_word v_marks v_notes) (z.1) (wX12_nightfall0 E h h_tape h_far h_from h_real h_other h_kept h_set h_w h_book h_noteSort h_whose h_what h_noteIs h_fitting h_dawn h_likes h_walked h_came z.2.1 z.2.2.1 z.2.2.2 v_read v_taped v_size v_at v_sort v_place v_sign v_number v_fault v_wrongAt v_word v_marks v_notes) := by
  intro sz
  refine ct_body (by decide) (Nat.le_of_ble_eq_true rfl) ?_
  intro p e s m args below meth c A ls hAe C hr hin hP hD hS hl
  have C : CX p s m args meth c cX12_nightfall RX12 3 E A := C
  have hl : lv_has ls 3 [(0, .ref h), (1, .int p0)] := hl
  have hx := C.1
  have hb := C.2.1
  rw [hAe]
  clear hAe
  obtain ⟨Q, hQ⟩ : ∃ Q, Q = MQ below (Qi E A (z.1) (wX12_nightfall0 E h h_tape h_far h_from h_real h_other h_kept h_set h_w h_book h_noteSort h_whose h_what h_noteIs h_fitting h_dawn h_likes h_walked h_came z.2.1 z.2.2.1 z.2.2.2 v_read v_taped v_size v_at v_sort v_place v_sign v_number v_fault v_wrongAt v_word v_marks v_notes)) args s 0 0 A := ⟨_, rfl⟩
  rw [← hQ]
  unfold fX12_nightfall0 at hf
  refine lv_aload_n (pc := 0) hx hb dX12_nightfall_0 rfl (lv_at hl 0 rfl) ?_
  refine lv_iconst (pc := 1) (v := 0) hx hb dX12_nightfall_1 (by decide) ?_
  refine r_put (pc := 2) (ws' := (wX12_nightfall0 E h h_tape h_far h_from h_real h_other h_kept h_set h_w h_book h_noteSort h_whose h_what h_noteIs h_fitting h_dawn h_likes h_walked h_came 0 v_trouble v_where v_read v_taped v_size v_at v_sort v_place v_sign v_number v_fault v_wrongAt v_word v_marks v_notes)) C hP hD hS 0 rfl fl_X12_71 rfl rfl (Nat.le_of_ble_eq_true rfl) rfl dX12_nightfall_2 ?_
  clear hP hD hS; intro H locs hP hD hS
  refine lv_aload_n (pc := 5) hx hb dX12_nightfall_5 rfl (lv_at hl 0 rfl) ?_
  refine lv_iload_n (pc := 6) hx hb dX12_nightfall_6 rfl (lv_at hl 1 rfl) ?_
  obtain ⟨r_7, hc_7, hf⟩ := bd1 hf
  refine r_dalVi (pc := 7) (ws' := (wX12_nightfall0 E h h_tape h_far h_from h_real h_other h_kept h_set h_w h_book h_noteSort h_whose h_what h_noteIs h_fitting h_dawn h_likes h_walked h_came 0 v_trouble v_where v_read v_taped v_size v_at v_sort v_place v_sign v_number v_fault v_wrongAt v_word v_marks v_notes)) (As := [.int p0]) (rest := []) C (ctX12_isSetting0 l E h h_tape h_far h_from h_real h_other h_kept h_set h_w h_book h_noteSort h_whose h_what h_noteIs h_fitting h_dawn h_likes h_walked h_came 0 v_trouble v_where v_read v_taped v_size v_at v_sort v_place v_sign v_number v_fault v_wrongAt v_word v_marks v_notes N p0 r_7 hc_7) ml_X12_412 ⟨Nat.le_of_ble_eq_true rfl, Nat.le_of_ble_eq_true rfl⟩ hP hD hS 0 rfl rfl rfl [0] [1] 1 rfl rfl rfl rfl rfl rfl rfl hl.1 rfl (Nat.le_of_ble_eq_true rfl) ⟨Nat.zero_le _, Nat.zero_le _⟩ dX12_nightfall_7 ?_
  clear hP hD hS; intro H locs hP hD hS
  refine lv_if_ne (pc := 10) (tgt := 19) hx hb dX12_nightfall_10 (by decide) (fun c_10 => ?_) (fun c_10 => ?_)
  · replace hf := it_f c_10 hf
    refine lv_aload_n (pc := 19) hx hb dX12_nightfall_19 rfl (lv_at hl 0 rfl) ?_
    refine lv_iload_n (pc := 20) hx hb dX12_nightfall_20 rfl (lv_at hl 1 rfl) ?_
    cases hf
  · replace hf := it_t c_10 hf
    refine lv_aload_n (pc := 13) hx hb dX12_nightfall_13 rfl (lv_at hl 0 rfl) ?_
    refine lv_iconst (pc := 14) (v := 1) hx hb dX12_nightfall_14 (by decide) ?_
    obtain ⟨r_15, v_trouble_15, v_where_15, hc_15, hf⟩ := bd3 hf
    refine r_dalVi (pc := 15) (ws' := (wX12_nightfall0 E h h_tape h_far h_from h_real h_other h_kept h_set h_w h_book h_noteSort h_whose h_what h_noteIs h_fitting h_dawn h_likes h_walked h_came 0 v_trouble_15 v_where_15 v_read v_taped v_size v_at v_sort v_place v_sign v_number v_fault v_wrongAt v_word v_marks v_notes)) (As := [.int 1]) (rest := []) C (ctX12_denied l E h h_tape h_far h_from h_real h_other h_kept h_set h_w h_book h_noteSort h_whose h_what h_noteIs h_fitting h_dawn h_likes h_walked h_came 0 v_trouble v_where none v_read v_taped v_size v_at v_sort v_place v_sign v_number v_fault v_wrongAt v_word v_marks v_notes N 1 (r_15, v_trouble_15, v_where_15) hc_15) ml_X12_415 ⟨Nat.le_of_ble_eq_true rfl, Nat.le_of_ble_eq_true rfl⟩ hP hD hS 0 rfl rfl rfl [0] [1] 1 rfl rfl rfl rfl rfl rfl rfl hl.1 rfl (Nat.le_of_ble_eq_true rfl) ⟨Nat.zero_le _, Nat.zero_le _⟩ dX12_nightfall_15 ?_
    clear hP hD hS; intro H locs hP hD hS
    obtain ⟨hz_18, hf⟩ := zg_s hf
    cases hf
    rw [hQ]
    exact r_zret C hr hP hD hS hz_18 rfl dX12_nightfall_18
