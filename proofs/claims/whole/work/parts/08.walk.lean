theorem dX10_room_0 : decode cX10_room 0 = .ok (.aload_n 0, 1) := by decide +kernel
theorem dX10_room_1 : decode cX10_room 1 = .ok (.iload_n 1, 1) := by decide +kernel
theorem dX10_room_2 : decode cX10_room 2 = .ok (.invokevirtual 101, 3) := by decide +kernel
theorem dX10_room_5 : decode cX10_room 5 = .ok (.ifCond .eq 11, 3) := by decide +kernel
theorem dX10_room_8 : decode cX10_room 8 = .ok (.iload_n 2, 1) := by decide +kernel
theorem dX10_room_9 : decode cX10_room 9 = .ok (.iconst 2, 1) := by decide +kernel
theorem dX10_room_10 : decode cX10_room 10 = .ok (.invokestatic 121, 3) := by decide +kernel
theorem dX10_room_13 : decode cX10_room 13 = .ok (.ifCond .ne 9, 3) := by decide +kernel
theorem dX10_room_16 : decode cX10_room 16 = .ok (.aload_n 0, 1) := by decide +kernel
theorem dX10_room_17 : decode cX10_room 17 = .ok (.iconst 1, 1) := by decide +kernel
theorem dX10_room_18 : decode cX10_room 18 = .ok (.invokevirtual 68, 3) := by decide +kernel
theorem dX10_room_21 : decode cX10_room 21 = .ok (.ireturn, 1) := by decide +kernel
theorem dX10_room_22 : decode cX10_room 22 = .ok (.aload_n 0, 1) := by decide +kernel
theorem dX10_room_23 : decode cX10_room 23 = .ok (.iload_n 2, 1) := by decide +kernel
theorem dX10_room_24 : decode cX10_room 24 = .ok (.ifCond .ne 18, 3) := by decide +kernel
theorem dX10_room_27 : decode cX10_room 27 = .ok (.aload_n 0, 1) := by decide +kernel
theorem dX10_room_28 : decode cX10_room 28 = .ok (.getfield 19, 3) := by decide +kernel
theorem dX10_room_31 : decode cX10_room 31 = .ok (.getfield 105, 3) := by decide +kernel
theorem dX10_room_34 : decode cX10_room 34 = .ok (.getfield 125, 3) := by decide +kernel
theorem dX10_room_37 : decode cX10_room 37 = .ok (.iload_n 1, 1) := by decide +kernel
theorem dX10_room_38 : decode cX10_room 38 = .ok (.iaload, 1) := by decide +kernel
theorem dX10_room_39 : decode cX10_room 39 = .ok (.goto 18, 3) := by decide +kernel
theorem dX10_room_42 : decode cX10_room 42 = .ok (.aload_n 0, 1) := by decide +kernel
theorem dX10_room_43 : decode cX10_room 43 = .ok (.getfield 19, 3) := by decide +kernel
theorem dX10_room_46 : decode cX10_room 46 = .ok (.getfield 105, 3) := by decide +kernel
theorem dX10_room_49 : decode cX10_room 49 = .ok (.getfield 128, 3) := by decide +kernel
theorem dX10_room_52 : decode cX10_room 52 = .ok (.iload_n 1, 1) := by decide +kernel
theorem dX10_room_53 : decode cX10_room 53 = .ok (.baload, 1) := by decide +kernel
theorem dX10_room_54 : decode cX10_room 54 = .ok (.invokestatic 132, 3) := by decide +kernel
theorem dX10_room_57 : decode cX10_room 57 = .ok (.invokevirtual 95, 3) := by decide +kernel
theorem dX10_room_60 : decode cX10_room 60 = .ok (.ireturn, 1) := by decide +kernel
theorem dX10_door_0 : decode cX10_door 0 = .ok (.aload_n 0, 1) := by decide +kernel
theorem dX10_door_1 : decode cX10_door 1 = .ok (.iload_n 1, 1) := by decide +kernel
theorem dX10_door_2 : decode cX10_door 2 = .ok (.invokevirtual 101, 3) := by decide +kernel
theorem dX10_door_5 : decode cX10_door 5 = .ok (.ifCond .eq 16, 3) := by decide +kernel
theorem dX10_door_8 : decode cX10_door 8 = .ok (.aload_n 0, 1) := by decide +kernel
theorem dX10_door_9 : decode cX10_door 9 = .ok (.iload_n 2, 1) := by decide +kernel
theorem dX10_door_10 : decode cX10_door 10 = .ok (.invokevirtual 101, 3) := by decide +kernel
theorem dX10_door_13 : decode cX10_door 13 = .ok (.ifCond .eq 8, 3) := by decide +kernel
theorem dX10_door_16 : decode cX10_door 16 = .ok (.iload_n 1, 1) := by decide +kernel
theorem dX10_door_17 : decode cX10_door 17 = .ok (.iload_n 2, 1) := by decide +kernel
theorem dX10_door_18 : decode cX10_door 18 = .ok (.if_icmp .ne 9, 3) := by decide +kernel
theorem dX10_door_21 : decode cX10_door 21 = .ok (.aload_n 0, 1) := by decide +kernel
theorem dX10_door_22 : decode cX10_door 22 = .ok (.iconst 1, 1) := by decide +kernel
theorem dX10_door_23 : decode cX10_door 23 = .ok (.invokevirtual 68, 3) := by decide +kernel
theorem dX10_door_26 : decode cX10_door 26 = .ok (.ireturn, 1) := by decide +kernel
theorem dX10_door_27 : decode cX10_door 27 = .ok (.aload_n 0, 1) := by decide +kernel
theorem dX10_door_28 : decode cX10_door 28 = .ok (.aload_n 0, 1) := by decide +kernel
theorem dX10_door_29 : decode cX10_door 29 = .ok (.getfield 19, 3) := by decide +kernel
theorem dX10_door_32 : decode cX10_door 32 = .ok (.getfield 105, 3) := by decide +kernel
theorem dX10_door_35 : decode cX10_door 35 = .ok (.iload_n 1, 1) := by decide +kernel
theorem dX10_door_36 : decode cX10_door 36 = .ok (.iload_n 2, 1) := by decide +kernel
theorem dX10_door_37 : decode cX10_door 37 = .ok (.invokevirtual 136, 3) := by decide +kernel
theorem dX10_door_40 : decode cX10_door 40 = .ok (.invokevirtual 95, 3) := by decide +kernel
theorem dX10_door_43 : decode cX10_door 43 = .ok (.ireturn, 1) := by decide +kernel
theorem dX10_dream_0 : decode cX10_dream 0 = .ok (.iload_n 1, 1) := by decide +kernel
theorem dX10_dream_1 : decode cX10_dream 1 = .ok (.aload_n 0, 1) := by decide +kernel
theorem dX10_dream_2 : decode cX10_dream 2 = .ok (.getfield 19, 3) := by decide +kernel
theorem dX10_dream_5 : decode cX10_dream 5 = .ok (.getfield 139, 3) := by decide +kernel
theorem dX10_dream_8 : decode cX10_dream 8 = .ok (.invokestatic 121, 3) := by decide +kernel
theorem dX10_dream_11 : decode cX10_dream 11 = .ok (.ifCond .eq 19, 3) := by decide +kernel
theorem dX10_dream_14 : decode cX10_dream 14 = .ok (.iload_n 2, 1) := by decide +kernel
theorem dX10_dream_15 : decode cX10_dream 15 = .ok (.iconst 4, 1) := by decide +kernel
theorem dX10_dream_16 : decode cX10_dream 16 = .ok (.invokestatic 121, 3) := by decide +kernel
theorem dX10_dream_19 : decode cX10_dream 19 = .ok (.ifCond .eq 11, 3) := by decide +kernel
theorem dX10_dream_22 : decode cX10_dream 22 = .ok (.iload_n 3, 1) := by decide +kernel
theorem dX10_dream_23 : decode cX10_dream 23 = .ok (.iconst 4, 1) := by decide +kernel
theorem dX10_dream_24 : decode cX10_dream 24 = .ok (.invokestatic 121, 3) := by decide +kernel
theorem dX10_dream_27 : decode cX10_dream 27 = .ok (.ifCond .ne 9, 3) := by decide +kernel
theorem dX10_dream_30 : decode cX10_dream 30 = .ok (.aload_n 0, 1) := by decide +kernel
theorem dX10_dream_31 : decode cX10_dream 31 = .ok (.iconst 1, 1) := by decide +kernel
theorem dX10_dream_32 : decode cX10_dream 32 = .ok (.invokevirtual 68, 3) := by decide +kernel
theorem dX10_dream_35 : decode cX10_dream 35 = .ok (.ireturn, 1) := by decide +kernel
theorem dX10_dream_36 : decode cX10_dream 36 = .ok (.aload_n 0, 1) := by decide +kernel
theorem dX10_dream_37 : decode cX10_dream 37 = .ok (.getfield 19, 3) := by decide +kernel
theorem dX10_dream_40 : decode cX10_dream 40 = .ok (.iload_n 1, 1) := by decide +kernel
theorem dX10_dream_41 : decode cX10_dream 41 = .ok (.iload_n 2, 1) := by decide +kernel
theorem dX10_dream_42 : decode cX10_dream 42 = .ok (.invokevirtual 142, 3) := by decide +kernel
theorem dX10_dream_45 : decode cX10_dream 45 = .ok (.ifCond .ne 10, 3) := by decide +kernel
theorem dX10_dream_48 : decode cX10_dream 48 = .ok (.aload_n 0, 1) := by decide +kernel
theorem dX10_dream_49 : decode cX10_dream 49 = .ok (.bipush 6, 2) := by decide +kernel
theorem dX10_dream_51 : decode cX10_dream 51 = .ok (.invokevirtual 68, 3) := by decide +kernel
theorem dX10_dream_54 : decode cX10_dream 54 = .ok (.ireturn, 1) := by decide +kernel
theorem dX10_dream_55 : decode cX10_dream 55 = .ok (.aload_n 0, 1) := by decide +kernel
theorem dX10_dream_56 : decode cX10_dream 56 = .ok (.aload_n 0, 1) := by decide +kernel
theorem dX10_dream_57 : decode cX10_dream 57 = .ok (.getfield 19, 3) := by decide +kernel
theorem dX10_dream_60 : decode cX10_dream 60 = .ok (.iload_n 1, 1) := by decide +kernel
theorem dX10_dream_61 : decode cX10_dream 61 = .ok (.iload_n 2, 1) := by decide +kernel
theorem dX10_dream_62 : decode cX10_dream 62 = .ok (.iload_n 3, 1) := by decide +kernel
theorem dX10_dream_63 : decode cX10_dream 63 = .ok (.invokevirtual 145, 3) := by decide +kernel
theorem dX10_dream_66 : decode cX10_dream 66 = .ok (.invokevirtual 95, 3) := by decide +kernel
theorem dX10_dream_69 : decode cX10_dream 69 = .ok (.ireturn, 1) := by decide +kernel
theorem dX10_isTold_0 : decode cX10_isTold 0 = .ok (.aload_n 0, 1) := by decide +kernel
theorem dX10_isTold_1 : decode cX10_isTold 1 = .ok (.getfield 19, 3) := by decide +kernel
theorem dX10_isTold_4 : decode cX10_isTold 4 = .ok (.getfield 172, 3) := by decide +kernel
theorem dX10_isTold_7 : decode cX10_isTold 7 = .ok (.ifCond .le 7, 3) := by decide +kernel
theorem dX10_isTold_10 : decode cX10_isTold 10 = .ok (.iconst 1, 1) := by decide +kernel
theorem dX10_isTold_11 : decode cX10_isTold 11 = .ok (.goto 4, 3) := by decide +kernel
theorem dX10_isTold_14 : decode cX10_isTold 14 = .ok (.iconst 0, 1) := by decide +kernel
theorem dX10_isTold_15 : decode cX10_isTold 15 = .ok (.ireturn, 1) := by decide +kernel
theorem dX2_settings_0 : decode cX2_settings 0 = .ok (.iconst 1, 1) := by decide +kernel
theorem dX2_settings_1 : decode cX2_settings 1 = .ok (.iconst 2, 1) := by decide +kernel
theorem dX2_settings_2 : decode cX2_settings 2 = .ok (.aload_n 0, 1) := by decide +kernel
theorem dX2_settings_3 : decode cX2_settings 3 = .ok (.getfield 12, 3) := by decide +kernel
theorem dX2_settings_6 : decode cX2_settings 6 = .ok (.getfield 42, 3) := by decide +kernel
theorem dX2_settings_9 : decode cX2_settings 9 = .ok (.imul, 1) := by decide +kernel
theorem dX2_settings_10 : decode cX2_settings 10 = .ok (.iadd, 1) := by decide +kernel
theorem dX2_settings_11 : decode cX2_settings 11 = .ok (.ireturn, 1) := by decide +kernel
theorem dX10_isSetting_0 : decode cX10_isSetting 0 = .ok (.aload_n 0, 1) := by decide +kernel
theorem dX10_isSetting_1 : decode cX10_isSetting 1 = .ok (.invokevirtual 170, 3) := by decide +kernel
theorem dX10_isSetting_4 : decode cX10_isSetting 4 = .ok (.ifCond .eq 21, 3) := by decide +kernel
theorem dX10_isSetting_7 : decode cX10_isSetting 7 = .ok (.iload_n 1, 1) := by decide +kernel
theorem dX10_isSetting_8 : decode cX10_isSetting 8 = .ok (.aload_n 0, 1) := by decide +kernel
theorem dX10_isSetting_9 : decode cX10_isSetting 9 = .ok (.getfield 19, 3) := by decide +kernel
theorem dX10_isSetting_12 : decode cX10_isSetting 12 = .ok (.invokevirtual 275, 3) := by decide +kernel
theorem dX10_isSetting_15 : decode cX10_isSetting 15 = .ok (.invokestatic 121, 3) := by decide +kernel
theorem dX10_isSetting_18 : decode cX10_isSetting 18 = .ok (.ifCond .eq 7, 3) := by decide +kernel
theorem dX10_isSetting_21 : decode cX10_isSetting 21 = .ok (.iconst 1, 1) := by decide +kernel
theorem dX10_isSetting_22 : decode cX10_isSetting 22 = .ok (.goto 4, 3) := by decide +kernel
theorem dX10_isSetting_25 : decode cX10_isSetting 25 = .ok (.iconst 0, 1) := by decide +kernel
theorem dX10_isSetting_26 : decode cX10_isSetting 26 = .ok (.ireturn, 1) := by decide +kernel
theorem dX10_deny_0 : decode cX10_deny 0 = .ok (.aload_n 0, 1) := by decide +kernel
theorem dX10_deny_1 : decode cX10_deny 1 = .ok (.iload_n 1, 1) := by decide +kernel
theorem dX10_deny_2 : decode cX10_deny 2 = .ok (.putfield 98, 3) := by decide +kernel
theorem dX10_deny_5 : decode cX10_deny 5 = .ok (.iconst 0, 1) := by decide +kernel
theorem dX10_deny_6 : decode cX10_deny 6 = .ok (.ireturn, 1) := by decide +kernel
theorem dX10_agree_0 : decode cX10_agree 0 = .ok (.aload_n 0, 1) := by decide +kernel
theorem dX10_agree_1 : decode cX10_agree 1 = .ok (.iconst 0, 1) := by decide +kernel
theorem dX10_agree_2 : decode cX10_agree 2 = .ok (.putfield 98, 3) := by decide +kernel
theorem dX10_agree_5 : decode cX10_agree 5 = .ok (.iconst 1, 1) := by decide +kernel
theorem dX10_agree_6 : decode cX10_agree 6 = .ok (.ireturn, 1) := by decide +kernel
theorem dX10_nightfall_0 : decode cX10_nightfall 0 = .ok (.aload_n 0, 1) := by decide +kernel
theorem dX10_nightfall_1 : decode cX10_nightfall 1 = .ok (.iload_n 1, 1) := by decide +kernel
theorem dX10_nightfall_2 : decode cX10_nightfall 2 = .ok (.invokevirtual 149, 3) := by decide +kernel
theorem dX10_nightfall_5 : decode cX10_nightfall 5 = .ok (.ifCond .ne 9, 3) := by decide +kernel
theorem dX10_nightfall_8 : decode cX10_nightfall 8 = .ok (.aload_n 0, 1) := by decide +kernel
theorem dX10_nightfall_9 : decode cX10_nightfall 9 = .ok (.iconst 1, 1) := by decide +kernel
theorem dX10_nightfall_10 : decode cX10_nightfall 10 = .ok (.invokevirtual 152, 3) := by decide +kernel
theorem dX10_nightfall_13 : decode cX10_nightfall 13 = .ok (.ireturn, 1) := by decide +kernel
theorem dX10_nightfall_14 : decode cX10_nightfall 14 = .ok (.aload_n 0, 1) := by decide +kernel
theorem dX10_nightfall_15 : decode cX10_nightfall 15 = .ok (.getfield 32, 3) := by decide +kernel
theorem dX10_nightfall_18 : decode cX10_nightfall 18 = .ok (.aload_n 0, 1) := by decide +kernel
theorem dX10_nightfall_19 : decode cX10_nightfall 19 = .ok (.getfield 19, 3) := by decide +kernel
theorem dX10_nightfall_22 : decode cX10_nightfall 22 = .ok (.iload_n 1, 1) := by decide +kernel
theorem dX10_nightfall_23 : decode cX10_nightfall 23 = .ok (.invokevirtual 155, 3) := by decide +kernel
theorem dX10_nightfall_26 : decode cX10_nightfall 26 = .ok (.aload_n 0, 1) := by decide +kernel
theorem dX10_nightfall_27 : decode cX10_nightfall 27 = .ok (.getfield 32, 3) := by decide +kernel
theorem dX10_nightfall_30 : decode cX10_nightfall 30 = .ok (.aload_n 0, 1) := by decide +kernel
theorem dX10_nightfall_31 : decode cX10_nightfall 31 = .ok (.getfield 23, 3) := by decide +kernel
theorem dX10_nightfall_34 : decode cX10_nightfall 34 = .ok (.iconst 0, 1) := by decide +kernel
theorem dX10_nightfall_35 : decode cX10_nightfall 35 = .ok (.invokevirtual 159, 3) := by decide +kernel
theorem dX10_nightfall_38 : decode cX10_nightfall 38 = .ok (.aload_n 0, 1) := by decide +kernel
theorem dX10_nightfall_39 : decode cX10_nightfall 39 = .ok (.invokevirtual 163, 3) := by decide +kernel
theorem dX10_nightfall_42 : decode cX10_nightfall 42 = .ok (.ireturn, 1) := by decide +kernel
theorem dX10_isSleeper_0 : decode cX10_isSleeper 0 = .ok (.iload_n 1, 1) := by decide +kernel
theorem dX10_isSleeper_1 : decode cX10_isSleeper 1 = .ok (.aload_n 0, 1) := by decide +kernel
theorem dX10_isSleeper_2 : decode cX10_isSleeper 2 = .ok (.getfield 19, 3) := by decide +kernel
theorem dX10_isSleeper_5 : decode cX10_isSleeper 5 = .ok (.getfield 92, 3) := by decide +kernel
theorem dX10_isSleeper_8 : decode cX10_isSleeper 8 = .ok (.invokestatic 121, 3) := by decide +kernel
theorem dX10_isSleeper_11 : decode cX10_isSleeper 11 = .ok (.ireturn, 1) := by decide +kernel
theorem dX10_dreams_0 : decode cX10_dreams 0 = .ok (.aload_n 0, 1) := by decide +kernel
theorem dX10_dreams_1 : decode cX10_dreams 1 = .ok (.iload_n 1, 1) := by decide +kernel
theorem dX10_dreams_2 : decode cX10_dreams 2 = .ok (.invokevirtual 167, 3) := by decide +kernel
theorem dX10_dreams_5 : decode cX10_dreams 5 = .ok (.ifCond .eq 17, 3) := by decide +kernel
theorem dX10_dreams_8 : decode cX10_dreams 8 = .ok (.iload_n 2, 1) := by decide +kernel
theorem dX10_dreams_9 : decode cX10_dreams 9 = .ok (.aload_n 0, 1) := by decide +kernel
theorem dX10_dreams_10 : decode cX10_dreams 10 = .ok (.getfield 19, 3) := by decide +kernel
theorem dX10_dreams_13 : decode cX10_dreams 13 = .ok (.getfield 139, 3) := by decide +kernel
theorem dX10_dreams_16 : decode cX10_dreams 16 = .ok (.invokestatic 121, 3) := by decide +kernel
theorem dX10_dreams_19 : decode cX10_dreams 19 = .ok (.ifCond .ne 9, 3) := by decide +kernel
theorem dX10_dreams_22 : decode cX10_dreams 22 = .ok (.aload_n 0, 1) := by decide +kernel
theorem dX10_dreams_23 : decode cX10_dreams 23 = .ok (.iconst 1, 1) := by decide +kernel
theorem dX10_dreams_24 : decode cX10_dreams 24 = .ok (.invokevirtual 152, 3) := by decide +kernel
theorem dX10_dreams_27 : decode cX10_dreams 27 = .ok (.ireturn, 1) := by decide +kernel
theorem dX10_dreams_28 : decode cX10_dreams 28 = .ok (.aload_n 0, 1) := by decide +kernel
theorem dX10_dreams_29 : decode cX10_dreams 29 = .ok (.getfield 23, 3) := by decide +kernel
theorem dX10_dreams_32 : decode cX10_dreams 32 = .ok (.iload_n 1, 1) := by decide +kernel
theorem dX10_dreams_33 : decode cX10_dreams 33 = .ok (.iload_n 2, 1) := by decide +kernel
theorem dX10_dreams_34 : decode cX10_dreams 34 = .ok (.iastore, 1) := by decide +kernel
theorem dX10_dreams_35 : decode cX10_dreams 35 = .ok (.aload_n 0, 1) := by decide +kernel
theorem dX10_dreams_36 : decode cX10_dreams 36 = .ok (.invokevirtual 163, 3) := by decide +kernel
theorem dX10_dreams_39 : decode cX10_dreams 39 = .ok (.ireturn, 1) := by decide +kernel
theorem dX10_minutes_0 : decode cX10_minutes 0 = .ok (.aload_n 0, 1) := by decide +kernel
theorem dX10_minutes_1 : decode cX10_minutes 1 = .ok (.invokevirtual 170, 3) := by decide +kernel
theorem dX10_minutes_4 : decode cX10_minutes 4 = .ok (.ifCond .ne 9, 3) := by decide +kernel
theorem dX10_minutes_7 : decode cX10_minutes 7 = .ok (.aload_n 0, 1) := by decide +kernel
theorem dX10_minutes_8 : decode cX10_minutes 8 = .ok (.iconst 1, 1) := by decide +kernel
theorem dX10_minutes_9 : decode cX10_minutes 9 = .ok (.invokevirtual 68, 3) := by decide +kernel
theorem dX10_minutes_12 : decode cX10_minutes 12 = .ok (.ireturn, 1) := by decide +kernel
theorem dX10_minutes_13 : decode cX10_minutes 13 = .ok (.iload_n 1, 1) := by decide +kernel
theorem dX10_minutes_14 : decode cX10_minutes 14 = .ok (.iconst 1, 1) := by decide +kernel
theorem dX10_minutes_15 : decode cX10_minutes 15 = .ok (.if_icmp .lt 9, 3) := by decide +kernel
theorem dX10_minutes_18 : decode cX10_minutes 18 = .ok (.iload_n 1, 1) := by decide +kernel
theorem dX10_minutes_19 : decode cX10_minutes 19 = .ok (.bipush 40, 2) := by decide +kernel
theorem dX10_minutes_21 : decode cX10_minutes 21 = .ok (.if_icmp .le 9, 3) := by decide +kernel
theorem dX10_minutes_24 : decode cX10_minutes 24 = .ok (.aload_n 0, 1) := by decide +kernel
theorem dX10_minutes_25 : decode cX10_minutes 25 = .ok (.iconst 2, 1) := by decide +kernel
theorem dX10_minutes_26 : decode cX10_minutes 26 = .ok (.invokevirtual 68, 3) := by decide +kernel
theorem dX10_minutes_29 : decode cX10_minutes 29 = .ok (.ireturn, 1) := by decide +kernel
theorem dX10_minutes_30 : decode cX10_minutes 30 = .ok (.aload_n 0, 1) := by decide +kernel
theorem dX10_minutes_31 : decode cX10_minutes 31 = .ok (.getfield 19, 3) := by decide +kernel
theorem dX10_minutes_34 : decode cX10_minutes 34 = .ok (.getfield 172, 3) := by decide +kernel
theorem dX10_minutes_37 : decode cX10_minutes 37 = .ok (.aload_n 0, 1) := by decide +kernel
theorem dX10_minutes_38 : decode cX10_minutes 38 = .ok (.getfield 32, 3) := by decide +kernel
theorem dX10_minutes_41 : decode cX10_minutes 41 = .ok (.getfield 175, 3) := by decide +kernel
theorem dX10_minutes_44 : decode cX10_minutes 44 = .ok (.isub, 1) := by decide +kernel
theorem dX10_minutes_45 : decode cX10_minutes 45 = .ok (.istore_n 2, 1) := by decide +kernel
theorem dX10_minutes_46 : decode cX10_minutes 46 = .ok (.iload_n 2, 1) := by decide +kernel
theorem dX10_minutes_47 : decode cX10_minutes 47 = .ok (.ifCond .gt 10, 3) := by decide +kernel
theorem dX10_minutes_50 : decode cX10_minutes 50 = .ok (.aload_n 0, 1) := by decide +kernel
theorem dX10_minutes_51 : decode cX10_minutes 51 = .ok (.bipush 6, 2) := by decide +kernel
theorem dX10_minutes_53 : decode cX10_minutes 53 = .ok (.invokevirtual 68, 3) := by decide +kernel
theorem dX10_minutes_56 : decode cX10_minutes 56 = .ok (.ireturn, 1) := by decide +kernel
theorem dX10_minutes_57 : decode cX10_minutes 57 = .ok (.aload_n 0, 1) := by decide +kernel
theorem dX10_minutes_58 : decode cX10_minutes 58 = .ok (.aload_n 0, 1) := by decide +kernel
theorem dX10_minutes_59 : decode cX10_minutes 59 = .ok (.getfield 32, 3) := by decide +kernel
theorem dX10_minutes_62 : decode cX10_minutes 62 = .ok (.iload_n 1, 1) := by decide +kernel
theorem dX10_minutes_63 : decode cX10_minutes 63 = .ok (.iload_n 2, 1) := by decide +kernel
theorem dX10_minutes_64 : decode cX10_minutes 64 = .ok (.invokestatic 178, 3) := by decide +kernel
theorem dX10_minutes_67 : decode cX10_minutes 67 = .ok (.invokevirtual 183, 3) := by decide +kernel
theorem dX10_minutes_70 : decode cX10_minutes 70 = .ok (.invokevirtual 95, 3) := by decide +kernel
theorem dX10_minutes_73 : decode cX10_minutes 73 = .ok (.ireturn, 1) := by decide +kernel
theorem dX10_morning_0 : decode cX10_morning 0 = .ok (.aload_n 0, 1) := by decide +kernel
theorem dX10_morning_1 : decode cX10_morning 1 = .ok (.invokevirtual 170, 3) := by decide +kernel
theorem dX10_morning_4 : decode cX10_morning 4 = .ok (.ifCond .ne 9, 3) := by decide +kernel
theorem dX10_morning_7 : decode cX10_morning 7 = .ok (.aload_n 0, 1) := by decide +kernel
theorem dX10_morning_8 : decode cX10_morning 8 = .ok (.iconst 1, 1) := by decide +kernel
theorem dX10_morning_9 : decode cX10_morning 9 = .ok (.invokevirtual 68, 3) := by decide +kernel
theorem dX10_morning_12 : decode cX10_morning 12 = .ok (.ireturn, 1) := by decide +kernel
theorem dX10_morning_13 : decode cX10_morning 13 = .ok (.aload_n 0, 1) := by decide +kernel
theorem dX10_morning_14 : decode cX10_morning 14 = .ok (.aload_n 0, 1) := by decide +kernel
theorem dX10_morning_15 : decode cX10_morning 15 = .ok (.getfield 32, 3) := by decide +kernel
theorem dX10_morning_18 : decode cX10_morning 18 = .ok (.aload_n 0, 1) := by decide +kernel
theorem dX10_morning_19 : decode cX10_morning 19 = .ok (.getfield 19, 3) := by decide +kernel
theorem dX10_morning_22 : decode cX10_morning 22 = .ok (.getfield 172, 3) := by decide +kernel
theorem dX10_morning_25 : decode cX10_morning 25 = .ok (.aload_n 0, 1) := by decide +kernel
theorem dX10_morning_26 : decode cX10_morning 26 = .ok (.getfield 32, 3) := by decide +kernel
theorem dX10_morning_29 : decode cX10_morning 29 = .ok (.getfield 175, 3) := by decide +kernel
theorem dX10_morning_32 : decode cX10_morning 32 = .ok (.isub, 1) := by decide +kernel
theorem dX10_morning_33 : decode cX10_morning 33 = .ok (.invokevirtual 183, 3) := by decide +kernel
theorem dX10_morning_36 : decode cX10_morning 36 = .ok (.invokevirtual 95, 3) := by decide +kernel
theorem dX10_morning_39 : decode cX10_morning 39 = .ok (.ireturn, 1) := by decide +kernel
theorem dX10_sleeper_0 : decode cX10_sleeper 0 = .ok (.aload_n 0, 1) := by decide +kernel
theorem dX10_sleeper_1 : decode cX10_sleeper 1 = .ok (.iload_n 1, 1) := by decide +kernel
theorem dX10_sleeper_2 : decode cX10_sleeper 2 = .ok (.invokevirtual 167, 3) := by decide +kernel
theorem dX10_sleeper_5 : decode cX10_sleeper 5 = .ok (.ifCond .ne 9, 3) := by decide +kernel
theorem dX10_sleeper_8 : decode cX10_sleeper 8 = .ok (.aload_n 0, 1) := by decide +kernel
theorem dX10_sleeper_9 : decode cX10_sleeper 9 = .ok (.iconst 1, 1) := by decide +kernel
theorem dX10_sleeper_10 : decode cX10_sleeper 10 = .ok (.invokevirtual 68, 3) := by decide +kernel
theorem dX10_sleeper_13 : decode cX10_sleeper 13 = .ok (.ireturn, 1) := by decide +kernel
theorem dX10_sleeper_14 : decode cX10_sleeper 14 = .ok (.iload_n 2, 1) := by decide +kernel
theorem dX10_sleeper_15 : decode cX10_sleeper 15 = .ok (.tableswitch 106 0 4 #[33, 47, 61, 75, 92], 33) := by decide +kernel
theorem dX10_sleeper_48 : decode cX10_sleeper 48 = .ok (.aload_n 0, 1) := by decide +kernel
theorem dX10_sleeper_49 : decode cX10_sleeper 49 = .ok (.aload_n 0, 1) := by decide +kernel
theorem dX10_sleeper_50 : decode cX10_sleeper 50 = .ok (.getfield 32, 3) := by decide +kernel
theorem dX10_sleeper_53 : decode cX10_sleeper 53 = .ok (.getfield 186, 3) := by decide +kernel
theorem dX10_sleeper_56 : decode cX10_sleeper 56 = .ok (.iload_n 1, 1) := by decide +kernel
theorem dX10_sleeper_57 : decode cX10_sleeper 57 = .ok (.iaload, 1) := by decide +kernel
theorem dX10_sleeper_58 : decode cX10_sleeper 58 = .ok (.invokevirtual 95, 3) := by decide +kernel
theorem dX10_sleeper_61 : decode cX10_sleeper 61 = .ok (.ireturn, 1) := by decide +kernel
theorem dX10_sleeper_62 : decode cX10_sleeper 62 = .ok (.aload_n 0, 1) := by decide +kernel
theorem dX10_sleeper_63 : decode cX10_sleeper 63 = .ok (.aload_n 0, 1) := by decide +kernel
theorem dX10_sleeper_64 : decode cX10_sleeper 64 = .ok (.getfield 32, 3) := by decide +kernel
theorem dX10_sleeper_67 : decode cX10_sleeper 67 = .ok (.getfield 189, 3) := by decide +kernel
theorem dX10_sleeper_70 : decode cX10_sleeper 70 = .ok (.iload_n 1, 1) := by decide +kernel
theorem dX10_sleeper_71 : decode cX10_sleeper 71 = .ok (.iaload, 1) := by decide +kernel
theorem dX10_sleeper_72 : decode cX10_sleeper 72 = .ok (.invokevirtual 95, 3) := by decide +kernel
theorem dX10_sleeper_75 : decode cX10_sleeper 75 = .ok (.ireturn, 1) := by decide +kernel
theorem dX10_sleeper_76 : decode cX10_sleeper 76 = .ok (.aload_n 0, 1) := by decide +kernel
theorem dX10_sleeper_77 : decode cX10_sleeper 77 = .ok (.aload_n 0, 1) := by decide +kernel
theorem dX10_sleeper_78 : decode cX10_sleeper 78 = .ok (.getfield 32, 3) := by decide +kernel
theorem dX10_sleeper_81 : decode cX10_sleeper 81 = .ok (.getfield 192, 3) := by decide +kernel
theorem dX10_sleeper_84 : decode cX10_sleeper 84 = .ok (.iload_n 1, 1) := by decide +kernel
theorem dX10_sleeper_85 : decode cX10_sleeper 85 = .ok (.iaload, 1) := by decide +kernel
theorem dX10_sleeper_86 : decode cX10_sleeper 86 = .ok (.invokevirtual 95, 3) := by decide +kernel
theorem dX10_sleeper_89 : decode cX10_sleeper 89 = .ok (.ireturn, 1) := by decide +kernel
theorem dX10_sleeper_90 : decode cX10_sleeper 90 = .ok (.aload_n 0, 1) := by decide +kernel
theorem dX10_sleeper_91 : decode cX10_sleeper 91 = .ok (.aload_n 0, 1) := by decide +kernel
theorem dX10_sleeper_92 : decode cX10_sleeper 92 = .ok (.getfield 32, 3) := by decide +kernel
theorem dX10_sleeper_95 : decode cX10_sleeper 95 = .ok (.getfield 195, 3) := by decide +kernel
theorem dX10_sleeper_98 : decode cX10_sleeper 98 = .ok (.iload_n 1, 1) := by decide +kernel
theorem dX10_sleeper_99 : decode cX10_sleeper 99 = .ok (.baload, 1) := by decide +kernel
theorem dX10_sleeper_100 : decode cX10_sleeper 100 = .ok (.invokestatic 132, 3) := by decide +kernel
theorem dX10_sleeper_103 : decode cX10_sleeper 103 = .ok (.invokevirtual 95, 3) := by decide +kernel
theorem dX10_sleeper_106 : decode cX10_sleeper 106 = .ok (.ireturn, 1) := by decide +kernel
theorem dX10_sleeper_107 : decode cX10_sleeper 107 = .ok (.aload_n 0, 1) := by decide +kernel
theorem dX10_sleeper_108 : decode cX10_sleeper 108 = .ok (.aload_n 0, 1) := by decide +kernel
theorem dX10_sleeper_109 : decode cX10_sleeper 109 = .ok (.getfield 32, 3) := by decide +kernel
theorem dX10_sleeper_112 : decode cX10_sleeper 112 = .ok (.getfield 198, 3) := by decide +kernel
theorem dX10_sleeper_115 : decode cX10_sleeper 115 = .ok (.iload_n 1, 1) := by decide +kernel
theorem dX10_sleeper_116 : decode cX10_sleeper 116 = .ok (.iaload, 1) := by decide +kernel
theorem dX10_sleeper_117 : decode cX10_sleeper 117 = .ok (.invokevirtual 95, 3) := by decide +kernel
theorem dX10_sleeper_120 : decode cX10_sleeper 120 = .ok (.ireturn, 1) := by decide +kernel
theorem dX10_sleeper_121 : decode cX10_sleeper 121 = .ok (.aload_n 0, 1) := by decide +kernel
theorem dX10_sleeper_122 : decode cX10_sleeper 122 = .ok (.iconst 1, 1) := by decide +kernel
theorem dX10_sleeper_123 : decode cX10_sleeper 123 = .ok (.invokevirtual 68, 3) := by decide +kernel
theorem dX10_sleeper_126 : decode cX10_sleeper 126 = .ok (.ireturn, 1) := by decide +kernel
theorem dX10_isThing_0 : decode cX10_isThing 0 = .ok (.iload_n 1, 1) := by decide +kernel
theorem dX10_isThing_1 : decode cX10_isThing 1 = .ok (.aload_n 0, 1) := by decide +kernel
theorem dX10_isThing_2 : decode cX10_isThing 2 = .ok (.getfield 19, 3) := by decide +kernel
theorem dX10_isThing_5 : decode cX10_isThing 5 = .ok (.getfield 313, 3) := by decide +kernel
theorem dX10_isThing_8 : decode cX10_isThing 8 = .ok (.invokestatic 121, 3) := by decide +kernel
theorem dX10_isThing_11 : decode cX10_isThing 11 = .ok (.ireturn, 1) := by decide +kernel
theorem dX10_thing_0 : decode cX10_thing 0 = .ok (.aload_n 0, 1) := by decide +kernel
theorem dX10_thing_1 : decode cX10_thing 1 = .ok (.iload_n 1, 1) := by decide +kernel
theorem dX10_thing_2 : decode cX10_thing 2 = .ok (.invokevirtual 201, 3) := by decide +kernel
theorem dX10_thing_5 : decode cX10_thing 5 = .ok (.ifCond .ne 9, 3) := by decide +kernel
theorem dX10_thing_8 : decode cX10_thing 8 = .ok (.aload_n 0, 1) := by decide +kernel
theorem dX10_thing_9 : decode cX10_thing 9 = .ok (.iconst 1, 1) := by decide +kernel
theorem dX10_thing_10 : decode cX10_thing 10 = .ok (.invokevirtual 68, 3) := by decide +kernel
theorem dX10_thing_13 : decode cX10_thing 13 = .ok (.ireturn, 1) := by decide +kernel
theorem dX10_thing_14 : decode cX10_thing 14 = .ok (.iload_n 2, 1) := by decide +kernel
theorem dX10_thing_15 : decode cX10_thing 15 = .ok (.tableswitch 69 0 2 #[25, 39, 56], 25) := by decide +kernel
theorem dX10_thing_40 : decode cX10_thing 40 = .ok (.aload_n 0, 1) := by decide +kernel
theorem dX10_thing_41 : decode cX10_thing 41 = .ok (.aload_n 0, 1) := by decide +kernel
theorem dX10_thing_42 : decode cX10_thing 42 = .ok (.getfield 32, 3) := by decide +kernel
theorem dX10_thing_45 : decode cX10_thing 45 = .ok (.getfield 204, 3) := by decide +kernel
theorem dX10_thing_48 : decode cX10_thing 48 = .ok (.iload_n 1, 1) := by decide +kernel
theorem dX10_thing_49 : decode cX10_thing 49 = .ok (.iaload, 1) := by decide +kernel
theorem dX10_thing_50 : decode cX10_thing 50 = .ok (.invokevirtual 95, 3) := by decide +kernel
theorem dX10_thing_53 : decode cX10_thing 53 = .ok (.ireturn, 1) := by decide +kernel
theorem dX10_thing_54 : decode cX10_thing 54 = .ok (.aload_n 0, 1) := by decide +kernel
theorem dX10_thing_55 : decode cX10_thing 55 = .ok (.aload_n 0, 1) := by decide +kernel
theorem dX10_thing_56 : decode cX10_thing 56 = .ok (.getfield 32, 3) := by decide +kernel
theorem dX10_thing_59 : decode cX10_thing 59 = .ok (.getfield 207, 3) := by decide +kernel
theorem dX10_thing_62 : decode cX10_thing 62 = .ok (.iload_n 1, 1) := by decide +kernel
theorem dX10_thing_63 : decode cX10_thing 63 = .ok (.baload, 1) := by decide +kernel
theorem dX10_thing_64 : decode cX10_thing 64 = .ok (.invokestatic 132, 3) := by decide +kernel
theorem dX10_thing_67 : decode cX10_thing 67 = .ok (.invokevirtual 95, 3) := by decide +kernel
theorem dX10_thing_70 : decode cX10_thing 70 = .ok (.ireturn, 1) := by decide +kernel
theorem dX10_thing_71 : decode cX10_thing 71 = .ok (.aload_n 0, 1) := by decide +kernel
theorem dX10_thing_72 : decode cX10_thing 72 = .ok (.aload_n 0, 1) := by decide +kernel
theorem dX10_thing_73 : decode cX10_thing 73 = .ok (.getfield 32, 3) := by decide +kernel
theorem dX10_thing_76 : decode cX10_thing 76 = .ok (.iload_n 1, 1) := by decide +kernel
theorem dX10_thing_77 : decode cX10_thing 77 = .ok (.invokevirtual 210, 3) := by decide +kernel
theorem dX10_thing_80 : decode cX10_thing 80 = .ok (.invokevirtual 95, 3) := by decide +kernel
theorem dX10_thing_83 : decode cX10_thing 83 = .ok (.ireturn, 1) := by decide +kernel
theorem dX10_thing_84 : decode cX10_thing 84 = .ok (.aload_n 0, 1) := by decide +kernel
theorem dX10_thing_85 : decode cX10_thing 85 = .ok (.iconst 1, 1) := by decide +kernel
theorem dX10_thing_86 : decode cX10_thing 86 = .ok (.invokevirtual 68, 3) := by decide +kernel
theorem dX10_thing_89 : decode cX10_thing 89 = .ok (.ireturn, 1) := by decide +kernel
theorem dX10_isDoor_0 : decode cX10_isDoor 0 = .ok (.iload_n 1, 1) := by decide +kernel
theorem dX10_isDoor_1 : decode cX10_isDoor 1 = .ok (.aload_n 0, 1) := by decide +kernel
theorem dX10_isDoor_2 : decode cX10_isDoor 2 = .ok (.getfield 19, 3) := by decide +kernel
theorem dX10_isDoor_5 : decode cX10_isDoor 5 = .ok (.getfield 105, 3) := by decide +kernel
theorem dX10_isDoor_8 : decode cX10_isDoor 8 = .ok (.getfield 310, 3) := by decide +kernel
theorem dX10_isDoor_11 : decode cX10_isDoor 11 = .ok (.invokestatic 121, 3) := by decide +kernel
theorem dX10_isDoor_14 : decode cX10_isDoor 14 = .ok (.ireturn, 1) := by decide +kernel
theorem dX10_doorway_0 : decode cX10_doorway 0 = .ok (.aload_n 0, 1) := by decide +kernel
theorem dX10_doorway_1 : decode cX10_doorway 1 = .ok (.iload_n 1, 1) := by decide +kernel
theorem dX10_doorway_2 : decode cX10_doorway 2 = .ok (.invokevirtual 213, 3) := by decide +kernel
theorem dX10_doorway_5 : decode cX10_doorway 5 = .ok (.ifCond .eq 11, 3) := by decide +kernel
theorem dX10_doorway_8 : decode cX10_doorway 8 = .ok (.iload_n 2, 1) := by decide +kernel
theorem dX10_doorway_9 : decode cX10_doorway 9 = .ok (.iconst 2, 1) := by decide +kernel
theorem dX10_doorway_10 : decode cX10_doorway 10 = .ok (.invokestatic 121, 3) := by decide +kernel
theorem dX10_doorway_13 : decode cX10_doorway 13 = .ok (.ifCond .ne 9, 3) := by decide +kernel
theorem dX10_doorway_16 : decode cX10_doorway 16 = .ok (.aload_n 0, 1) := by decide +kernel
theorem dX10_doorway_17 : decode cX10_doorway 17 = .ok (.iconst 1, 1) := by decide +kernel
theorem dX10_doorway_18 : decode cX10_doorway 18 = .ok (.invokevirtual 68, 3) := by decide +kernel
theorem dX10_doorway_21 : decode cX10_doorway 21 = .ok (.ireturn, 1) := by decide +kernel
theorem dX10_doorway_22 : decode cX10_doorway 22 = .ok (.aload_n 0, 1) := by decide +kernel
theorem dX10_doorway_23 : decode cX10_doorway 23 = .ok (.iload_n 2, 1) := by decide +kernel
theorem dX10_doorway_24 : decode cX10_doorway 24 = .ok (.ifCond .ne 15, 3) := by decide +kernel
theorem dX10_doorway_27 : decode cX10_doorway 27 = .ok (.aload_n 0, 1) := by decide +kernel
theorem dX10_doorway_28 : decode cX10_doorway 28 = .ok (.getfield 32, 3) := by decide +kernel
theorem dX10_doorway_31 : decode cX10_doorway 31 = .ok (.getfield 216, 3) := by decide +kernel
theorem dX10_doorway_34 : decode cX10_doorway 34 = .ok (.iload_n 1, 1) := by decide +kernel
theorem dX10_doorway_35 : decode cX10_doorway 35 = .ok (.iaload, 1) := by decide +kernel
theorem dX10_doorway_36 : decode cX10_doorway 36 = .ok (.goto 12, 3) := by decide +kernel
theorem dX10_doorway_39 : decode cX10_doorway 39 = .ok (.aload_n 0, 1) := by decide +kernel
theorem dX10_doorway_40 : decode cX10_doorway 40 = .ok (.getfield 32, 3) := by decide +kernel
theorem dX10_doorway_43 : decode cX10_doorway 43 = .ok (.getfield 219, 3) := by decide +kernel
theorem dX10_doorway_46 : decode cX10_doorway 46 = .ok (.iload_n 1, 1) := by decide +kernel
theorem dX10_doorway_47 : decode cX10_doorway 47 = .ok (.iaload, 1) := by decide +kernel
theorem dX10_doorway_48 : decode cX10_doorway 48 = .ok (.invokevirtual 95, 3) := by decide +kernel
theorem dX10_doorway_51 : decode cX10_doorway 51 = .ok (.ireturn, 1) := by decide +kernel
theorem dX10_isListener_0 : decode cX10_isListener 0 = .ok (.iload_n 1, 1) := by decide +kernel
theorem dX10_isListener_1 : decode cX10_isListener 1 = .ok (.aload_n 0, 1) := by decide +kernel
theorem dX10_isListener_2 : decode cX10_isListener 2 = .ok (.getfield 19, 3) := by decide +kernel
theorem dX10_isListener_5 : decode cX10_isListener 5 = .ok (.getfield 316, 3) := by decide +kernel
theorem dX10_isListener_8 : decode cX10_isListener 8 = .ok (.invokestatic 121, 3) := by decide +kernel
theorem dX10_isListener_11 : decode cX10_isListener 11 = .ok (.ireturn, 1) := by decide +kernel
theorem dX10_heard_0 : decode cX10_heard 0 = .ok (.aload_n 0, 1) := by decide +kernel
theorem dX10_heard_1 : decode cX10_heard 1 = .ok (.iload_n 1, 1) := by decide +kernel
theorem dX10_heard_2 : decode cX10_heard 2 = .ok (.invokevirtual 222, 3) := by decide +kernel
theorem dX10_heard_5 : decode cX10_heard 5 = .ok (.ifCond .eq 19, 3) := by decide +kernel
theorem dX10_heard_8 : decode cX10_heard 8 = .ok (.iload_n 2, 1) := by decide +kernel
theorem dX10_heard_9 : decode cX10_heard 9 = .ok (.iconst 1, 1) := by decide +kernel
theorem dX10_heard_10 : decode cX10_heard 10 = .ok (.if_icmp .lt 14, 3) := by decide +kernel
theorem dX10_heard_13 : decode cX10_heard 13 = .ok (.iload_n 2, 1) := by decide +kernel
theorem dX10_heard_14 : decode cX10_heard 14 = .ok (.aload_n 0, 1) := by decide +kernel
theorem dX10_heard_15 : decode cX10_heard 15 = .ok (.getfield 32, 3) := by decide +kernel
theorem dX10_heard_18 : decode cX10_heard 18 = .ok (.getfield 175, 3) := by decide +kernel
theorem dX10_heard_21 : decode cX10_heard 21 = .ok (.if_icmp .le 9, 3) := by decide +kernel
theorem dX10_heard_24 : decode cX10_heard 24 = .ok (.aload_n 0, 1) := by decide +kernel
theorem dX10_heard_25 : decode cX10_heard 25 = .ok (.iconst 1, 1) := by decide +kernel
theorem dX10_heard_26 : decode cX10_heard 26 = .ok (.invokevirtual 68, 3) := by decide +kernel
theorem dX10_heard_29 : decode cX10_heard 29 = .ok (.ireturn, 1) := by decide +kernel
theorem dX10_heard_30 : decode cX10_heard 30 = .ok (.aload_n 0, 1) := by decide +kernel
theorem dX10_heard_31 : decode cX10_heard 31 = .ok (.aload_n 0, 1) := by decide +kernel
theorem dX10_heard_32 : decode cX10_heard 32 = .ok (.getfield 32, 3) := by decide +kernel
theorem dX10_heard_35 : decode cX10_heard 35 = .ok (.getfield 225, 3) := by decide +kernel
theorem dX10_heard_38 : decode cX10_heard 38 = .ok (.iload_n 1, 1) := by decide +kernel
theorem dX10_heard_39 : decode cX10_heard 39 = .ok (.laload, 1) := by decide +kernel
theorem dX10_heard_40 : decode cX10_heard 40 = .ok (.iload_n 2, 1) := by decide +kernel
theorem dX10_heard_41 : decode cX10_heard 41 = .ok (.invokestatic 229, 3) := by decide +kernel
theorem dX10_heard_44 : decode cX10_heard 44 = .ok (.invokestatic 132, 3) := by decide +kernel
theorem dX10_heard_47 : decode cX10_heard 47 = .ok (.invokevirtual 95, 3) := by decide +kernel
theorem dX10_heard_50 : decode cX10_heard 50 = .ok (.ireturn, 1) := by decide +kernel
theorem dJ13_bitCount_95d88_0 : decode cJ13_bitCount_95d88 0 = .ok (.lload_n 0, 1) := by decide +kernel
theorem dJ13_bitCount_95d88_1 : decode cJ13_bitCount_95d88 1 = .ok (.lload_n 0, 1) := by decide +kernel
theorem dJ13_bitCount_95d88_2 : decode cJ13_bitCount_95d88 2 = .ok (.iconst 1, 1) := by decide +kernel
theorem dJ13_bitCount_95d88_3 : decode cJ13_bitCount_95d88 3 = .ok (.lushr, 1) := by decide +kernel
theorem dJ13_bitCount_95d88_4 : decode cJ13_bitCount_95d88 4 = .ok (.ldc2_w 314, 3) := by decide +kernel
theorem dJ13_bitCount_95d88_7 : decode cJ13_bitCount_95d88 7 = .ok (.land, 1) := by decide +kernel
theorem dJ13_bitCount_95d88_8 : decode cJ13_bitCount_95d88 8 = .ok (.lsub, 1) := by decide +kernel
theorem dJ13_bitCount_95d88_9 : decode cJ13_bitCount_95d88 9 = .ok (.lstore_n 0, 1) := by decide +kernel
theorem dJ13_bitCount_95d88_10 : decode cJ13_bitCount_95d88 10 = .ok (.lload_n 0, 1) := by decide +kernel
theorem dJ13_bitCount_95d88_11 : decode cJ13_bitCount_95d88 11 = .ok (.ldc2_w 316, 3) := by decide +kernel
theorem dJ13_bitCount_95d88_14 : decode cJ13_bitCount_95d88 14 = .ok (.land, 1) := by decide +kernel
theorem dJ13_bitCount_95d88_15 : decode cJ13_bitCount_95d88 15 = .ok (.lload_n 0, 1) := by decide +kernel
theorem dJ13_bitCount_95d88_16 : decode cJ13_bitCount_95d88 16 = .ok (.iconst 2, 1) := by decide +kernel
theorem dJ13_bitCount_95d88_17 : decode cJ13_bitCount_95d88 17 = .ok (.lushr, 1) := by decide +kernel
theorem dJ13_bitCount_95d88_18 : decode cJ13_bitCount_95d88 18 = .ok (.ldc2_w 316, 3) := by decide +kernel
theorem dJ13_bitCount_95d88_21 : decode cJ13_bitCount_95d88 21 = .ok (.land, 1) := by decide +kernel
theorem dJ13_bitCount_95d88_22 : decode cJ13_bitCount_95d88 22 = .ok (.ladd, 1) := by decide +kernel
theorem dJ13_bitCount_95d88_23 : decode cJ13_bitCount_95d88 23 = .ok (.lstore_n 0, 1) := by decide +kernel
theorem dJ13_bitCount_95d88_24 : decode cJ13_bitCount_95d88 24 = .ok (.lload_n 0, 1) := by decide +kernel
theorem dJ13_bitCount_95d88_25 : decode cJ13_bitCount_95d88 25 = .ok (.lload_n 0, 1) := by decide +kernel
theorem dJ13_bitCount_95d88_26 : decode cJ13_bitCount_95d88 26 = .ok (.iconst 4, 1) := by decide +kernel
theorem dJ13_bitCount_95d88_27 : decode cJ13_bitCount_95d88 27 = .ok (.lushr, 1) := by decide +kernel
theorem dJ13_bitCount_95d88_28 : decode cJ13_bitCount_95d88 28 = .ok (.ladd, 1) := by decide +kernel
theorem dJ13_bitCount_95d88_29 : decode cJ13_bitCount_95d88 29 = .ok (.ldc2_w 318, 3) := by decide +kernel
theorem dJ13_bitCount_95d88_32 : decode cJ13_bitCount_95d88 32 = .ok (.land, 1) := by decide +kernel
theorem dJ13_bitCount_95d88_33 : decode cJ13_bitCount_95d88 33 = .ok (.lstore_n 0, 1) := by decide +kernel
theorem dJ13_bitCount_95d88_34 : decode cJ13_bitCount_95d88 34 = .ok (.lload_n 0, 1) := by decide +kernel
theorem dJ13_bitCount_95d88_35 : decode cJ13_bitCount_95d88 35 = .ok (.lload_n 0, 1) := by decide +kernel
theorem dJ13_bitCount_95d88_36 : decode cJ13_bitCount_95d88 36 = .ok (.bipush 8, 2) := by decide +kernel
theorem dJ13_bitCount_95d88_38 : decode cJ13_bitCount_95d88 38 = .ok (.lushr, 1) := by decide +kernel
theorem dJ13_bitCount_95d88_39 : decode cJ13_bitCount_95d88 39 = .ok (.ladd, 1) := by decide +kernel
theorem dJ13_bitCount_95d88_40 : decode cJ13_bitCount_95d88 40 = .ok (.lstore_n 0, 1) := by decide +kernel
theorem dJ13_bitCount_95d88_41 : decode cJ13_bitCount_95d88 41 = .ok (.lload_n 0, 1) := by decide +kernel
theorem dJ13_bitCount_95d88_42 : decode cJ13_bitCount_95d88 42 = .ok (.lload_n 0, 1) := by decide +kernel
theorem dJ13_bitCount_95d88_43 : decode cJ13_bitCount_95d88 43 = .ok (.bipush 16, 2) := by decide +kernel
theorem dJ13_bitCount_95d88_45 : decode cJ13_bitCount_95d88 45 = .ok (.lushr, 1) := by decide +kernel
theorem dJ13_bitCount_95d88_46 : decode cJ13_bitCount_95d88 46 = .ok (.ladd, 1) := by decide +kernel
theorem dJ13_bitCount_95d88_47 : decode cJ13_bitCount_95d88 47 = .ok (.lstore_n 0, 1) := by decide +kernel
theorem dJ13_bitCount_95d88_48 : decode cJ13_bitCount_95d88 48 = .ok (.lload_n 0, 1) := by decide +kernel
theorem dJ13_bitCount_95d88_49 : decode cJ13_bitCount_95d88 49 = .ok (.lload_n 0, 1) := by decide +kernel
theorem dJ13_bitCount_95d88_50 : decode cJ13_bitCount_95d88 50 = .ok (.bipush 32, 2) := by decide +kernel
theorem dJ13_bitCount_95d88_52 : decode cJ13_bitCount_95d88 52 = .ok (.lushr, 1) := by decide +kernel
theorem dJ13_bitCount_95d88_53 : decode cJ13_bitCount_95d88 53 = .ok (.ladd, 1) := by decide +kernel
theorem dJ13_bitCount_95d88_54 : decode cJ13_bitCount_95d88 54 = .ok (.lstore_n 0, 1) := by decide +kernel
theorem dJ13_bitCount_95d88_55 : decode cJ13_bitCount_95d88 55 = .ok (.lload_n 0, 1) := by decide +kernel
theorem dJ13_bitCount_95d88_56 : decode cJ13_bitCount_95d88 56 = .ok (.l2i, 1) := by decide +kernel
theorem dJ13_bitCount_95d88_57 : decode cJ13_bitCount_95d88 57 = .ok (.bipush 127, 2) := by decide +kernel
theorem dJ13_bitCount_95d88_59 : decode cJ13_bitCount_95d88 59 = .ok (.iand, 1) := by decide +kernel
theorem dJ13_bitCount_95d88_60 : decode cJ13_bitCount_95d88 60 = .ok (.ireturn, 1) := by decide +kernel
theorem dX10_creaks_0 : decode cX10_creaks 0 = .ok (.aload_n 0, 1) := by decide +kernel
theorem dX10_creaks_1 : decode cX10_creaks 1 = .ok (.iload_n 1, 1) := by decide +kernel
theorem dX10_creaks_2 : decode cX10_creaks 2 = .ok (.invokevirtual 222, 3) := by decide +kernel
theorem dX10_creaks_5 : decode cX10_creaks 5 = .ok (.ifCond .ne 9, 3) := by decide +kernel
theorem dX10_creaks_8 : decode cX10_creaks 8 = .ok (.aload_n 0, 1) := by decide +kernel
theorem dX10_creaks_9 : decode cX10_creaks 9 = .ok (.iconst 1, 1) := by decide +kernel
theorem dX10_creaks_10 : decode cX10_creaks 10 = .ok (.invokevirtual 68, 3) := by decide +kernel
theorem dX10_creaks_13 : decode cX10_creaks 13 = .ok (.ireturn, 1) := by decide +kernel
theorem dX10_creaks_14 : decode cX10_creaks 14 = .ok (.aload_n 0, 1) := by decide +kernel
theorem dX10_creaks_15 : decode cX10_creaks 15 = .ok (.aload_n 0, 1) := by decide +kernel
theorem dX10_creaks_16 : decode cX10_creaks 16 = .ok (.getfield 32, 3) := by decide +kernel
theorem dX10_creaks_19 : decode cX10_creaks 19 = .ok (.getfield 225, 3) := by decide +kernel
theorem dX10_creaks_22 : decode cX10_creaks 22 = .ok (.iload_n 1, 1) := by decide +kernel
theorem dX10_creaks_23 : decode cX10_creaks 23 = .ok (.laload, 1) := by decide +kernel
theorem dX10_creaks_24 : decode cX10_creaks 24 = .ok (.invokestatic 233, 3) := by decide +kernel
theorem dX10_creaks_27 : decode cX10_creaks 27 = .ok (.invokevirtual 95, 3) := by decide +kernel
theorem dX10_creaks_30 : decode cX10_creaks 30 = .ok (.ireturn, 1) := by decide +kernel
theorem dX10_called_0 : decode cX10_called 0 = .ok (.aload_n 0, 1) := by decide +kernel
theorem dX10_called_1 : decode cX10_called 1 = .ok (.iload_n 1, 1) := by decide +kernel
theorem dX10_called_2 : decode cX10_called 2 = .ok (.invokevirtual 149, 3) := by decide +kernel
theorem dX10_called_5 : decode cX10_called 5 = .ok (.ifCond .eq 11, 3) := by decide +kernel
theorem dX10_called_8 : decode cX10_called 8 = .ok (.aload_n 0, 1) := by decide +kernel
theorem dX10_called_9 : decode cX10_called 9 = .ok (.iload_n 2, 1) := by decide +kernel
theorem dX10_called_10 : decode cX10_called 10 = .ok (.invokevirtual 167, 3) := by decide +kernel
theorem dX10_called_13 : decode cX10_called 13 = .ok (.ifCond .ne 9, 3) := by decide +kernel
theorem dX10_called_16 : decode cX10_called 16 = .ok (.aload_n 0, 1) := by decide +kernel
theorem dX10_called_17 : decode cX10_called 17 = .ok (.iconst 1, 1) := by decide +kernel
theorem dX10_called_18 : decode cX10_called 18 = .ok (.invokevirtual 68, 3) := by decide +kernel
theorem dX10_called_21 : decode cX10_called 21 = .ok (.ireturn, 1) := by decide +kernel
theorem dX10_called_22 : decode cX10_called 22 = .ok (.iload_n 3, 1) := by decide +kernel
theorem dX10_called_23 : decode cX10_called 23 = .ok (.ifCond .lt 14, 3) := by decide +kernel
theorem dX10_called_26 : decode cX10_called 26 = .ok (.iload_n 3, 1) := by decide +kernel
theorem dX10_called_27 : decode cX10_called 27 = .ok (.aload_n 0, 1) := by decide +kernel
theorem dX10_called_28 : decode cX10_called 28 = .ok (.getfield 19, 3) := by decide +kernel
theorem dX10_called_31 : decode cX10_called 31 = .ok (.getfield 172, 3) := by decide +kernel
theorem dX10_called_34 : decode cX10_called 34 = .ok (.if_icmp .le 9, 3) := by decide +kernel
theorem dX10_called_37 : decode cX10_called 37 = .ok (.aload_n 0, 1) := by decide +kernel
theorem dX10_called_38 : decode cX10_called 38 = .ok (.iconst 2, 1) := by decide +kernel
theorem dX10_called_39 : decode cX10_called 39 = .ok (.invokevirtual 68, 3) := by decide +kernel
theorem dX10_called_42 : decode cX10_called 42 = .ok (.ireturn, 1) := by decide +kernel
theorem dX10_called_43 : decode cX10_called 43 = .ok (.aload_n 0, 1) := by decide +kernel
theorem dX10_called_44 : decode cX10_called 44 = .ok (.getfield 50, 3) := by decide +kernel
theorem dX10_called_47 : decode cX10_called 47 = .ok (.getfield 239, 3) := by decide +kernel
theorem dX10_called_50 : decode cX10_called 50 = .ok (.astore 4, 2) := by decide +kernel
theorem dX10_called_52 : decode cX10_called 52 = .ok (.aload 4, 2) := by decide +kernel
theorem dX10_called_54 : decode cX10_called 54 = .ok (.aload_n 0, 1) := by decide +kernel
theorem dX10_called_55 : decode cX10_called 55 = .ok (.getfield 19, 3) := by decide +kernel
theorem dX10_called_58 : decode cX10_called 58 = .ok (.iload_n 1, 1) := by decide +kernel
theorem dX10_called_59 : decode cX10_called 59 = .ok (.invokevirtual 155, 3) := by decide +kernel
theorem dX10_called_62 : decode cX10_called 62 = .ok (.aload 4, 2) := by decide +kernel
theorem dX10_called_64 : decode cX10_called 64 = .ok (.aload_n 0, 1) := by decide +kernel
theorem dX10_called_65 : decode cX10_called 65 = .ok (.getfield 23, 3) := by decide +kernel
theorem dX10_called_68 : decode cX10_called 68 = .ok (.iconst 0, 1) := by decide +kernel
theorem dX10_called_69 : decode cX10_called 69 = .ok (.invokevirtual 159, 3) := by decide +kernel
theorem dX10_called_72 : decode cX10_called 72 = .ok (.aload 4, 2) := by decide +kernel
theorem dX10_called_74 : decode cX10_called 74 = .ok (.iload_n 3, 1) := by decide +kernel
theorem dX10_called_75 : decode cX10_called 75 = .ok (.invokevirtual 183, 3) := by decide +kernel
theorem dX10_called_78 : decode cX10_called 78 = .ok (.pop, 1) := by decide +kernel
theorem dX10_called_79 : decode cX10_called 79 = .ok (.aload_n 0, 1) := by decide +kernel
theorem dX10_called_80 : decode cX10_called 80 = .ok (.aload 4, 2) := by decide +kernel
theorem dX10_called_82 : decode cX10_called 82 = .ok (.getfield 186, 3) := by decide +kernel
theorem dX10_called_85 : decode cX10_called 85 = .ok (.iload_n 2, 1) := by decide +kernel
theorem dX10_called_86 : decode cX10_called 86 = .ok (.iaload, 1) := by decide +kernel
theorem dX10_called_87 : decode cX10_called 87 = .ok (.invokevirtual 95, 3) := by decide +kernel
theorem dX10_called_90 : decode cX10_called 90 = .ok (.ireturn, 1) := by decide +kernel
theorem dX8_become_0 : decode cX8_become 0 = .ok (.aload_n 0, 1) := by decide +kernel
theorem dX8_become_1 : decode cX8_become 1 = .ok (.aload_n 1, 1) := by decide +kernel
theorem dX8_become_2 : decode cX8_become 2 = .ok (.getfield 21, 3) := by decide +kernel
theorem dX8_become_5 : decode cX8_become 5 = .ok (.putfield 21, 3) := by decide +kernel
theorem dX8_become_8 : decode cX8_become 8 = .ok (.aload_n 1, 1) := by decide +kernel
theorem dX8_become_9 : decode cX8_become 9 = .ok (.getfield 9, 3) := by decide +kernel
theorem dX8_become_12 : decode cX8_become 12 = .ok (.iconst 0, 1) := by decide +kernel
theorem dX8_become_13 : decode cX8_become 13 = .ok (.aload_n 0, 1) := by decide +kernel
theorem dX8_become_14 : decode cX8_become 14 = .ok (.getfield 9, 3) := by decide +kernel
theorem dX8_become_17 : decode cX8_become 17 = .ok (.iconst 0, 1) := by decide +kernel
theorem dX8_become_18 : decode cX8_become 18 = .ok (.aload_n 0, 1) := by decide +kernel
theorem dX8_become_19 : decode cX8_become 19 = .ok (.getfield 9, 3) := by decide +kernel
theorem dX8_become_22 : decode cX8_become 22 = .ok (.arraylength, 1) := by decide +kernel
theorem dX8_become_23 : decode cX8_become 23 = .ok (.invokestatic 49, 3) := by decide +kernel
theorem dX8_become_26 : decode cX8_become 26 = .ok (.return_, 1) := by decide +kernel
theorem dX4_become_0 : decode cX4_become 0 = .ok (.aload_n 0, 1) := by decide +kernel
theorem dX4_become_1 : decode cX4_become 1 = .ok (.aload_n 1, 1) := by decide +kernel
theorem dX4_become_2 : decode cX4_become 2 = .ok (.getfield 51, 3) := by decide +kernel
theorem dX4_become_5 : decode cX4_become 5 = .ok (.putfield 51, 3) := by decide +kernel
theorem dX4_become_8 : decode cX4_become 8 = .ok (.aload_n 0, 1) := by decide +kernel
theorem dX4_become_9 : decode cX4_become 9 = .ok (.aload_n 1, 1) := by decide +kernel
theorem dX4_become_10 : decode cX4_become 10 = .ok (.getfield 55, 3) := by decide +kernel
theorem dX4_become_13 : decode cX4_become 13 = .ok (.putfield 55, 3) := by decide +kernel
theorem dX4_become_16 : decode cX4_become 16 = .ok (.aload_n 0, 1) := by decide +kernel
theorem dX4_become_17 : decode cX4_become 17 = .ok (.aload_n 1, 1) := by decide +kernel
theorem dX4_become_18 : decode cX4_become 18 = .ok (.getfield 73, 3) := by decide +kernel
theorem dX4_become_21 : decode cX4_become 21 = .ok (.putfield 73, 3) := by decide +kernel
theorem dX4_become_24 : decode cX4_become 24 = .ok (.aload_n 0, 1) := by decide +kernel
theorem dX4_become_25 : decode cX4_become 25 = .ok (.getfield 12, 3) := by decide +kernel
theorem dX4_become_28 : decode cX4_become 28 = .ok (.aload_n 1, 1) := by decide +kernel
theorem dX4_become_29 : decode cX4_become 29 = .ok (.getfield 12, 3) := by decide +kernel
theorem dX4_become_32 : decode cX4_become 32 = .ok (.invokevirtual 105, 3) := by decide +kernel
theorem dX4_become_35 : decode cX4_become 35 = .ok (.aload_n 1, 1) := by decide +kernel
theorem dX4_become_36 : decode cX4_become 36 = .ok (.getfield 18, 3) := by decide +kernel
theorem dX4_become_39 : decode cX4_become 39 = .ok (.iconst 0, 1) := by decide +kernel
theorem dX4_become_40 : decode cX4_become 40 = .ok (.aload_n 0, 1) := by decide +kernel
theorem dX4_become_41 : decode cX4_become 41 = .ok (.getfield 18, 3) := by decide +kernel
theorem dX4_become_44 : decode cX4_become 44 = .ok (.iconst 0, 1) := by decide +kernel
theorem dX4_become_45 : decode cX4_become 45 = .ok (.bipush 10, 2) := by decide +kernel
theorem dX4_become_47 : decode cX4_become 47 = .ok (.invokestatic 92, 3) := by decide +kernel
theorem dX4_become_50 : decode cX4_become 50 = .ok (.aload_n 1, 1) := by decide +kernel
theorem dX4_become_51 : decode cX4_become 51 = .ok (.getfield 22, 3) := by decide +kernel
theorem dX4_become_54 : decode cX4_become 54 = .ok (.iconst 0, 1) := by decide +kernel
theorem dX4_become_55 : decode cX4_become 55 = .ok (.aload_n 0, 1) := by decide +kernel
theorem dX4_become_56 : decode cX4_become 56 = .ok (.getfield 22, 3) := by decide +kernel
theorem dX4_become_59 : decode cX4_become 59 = .ok (.iconst 0, 1) := by decide +kernel
theorem dX4_become_60 : decode cX4_become 60 = .ok (.bipush 10, 2) := by decide +kernel
theorem dX4_become_62 : decode cX4_become 62 = .ok (.invokestatic 92, 3) := by decide +kernel
theorem dX4_become_65 : decode cX4_become 65 = .ok (.aload_n 1, 1) := by decide +kernel
theorem dX4_become_66 : decode cX4_become 66 = .ok (.getfield 25, 3) := by decide +kernel
theorem dX4_become_69 : decode cX4_become 69 = .ok (.iconst 0, 1) := by decide +kernel
theorem dX4_become_70 : decode cX4_become 70 = .ok (.aload_n 0, 1) := by decide +kernel
theorem dX4_become_71 : decode cX4_become 71 = .ok (.getfield 25, 3) := by decide +kernel
theorem dX4_become_74 : decode cX4_become 74 = .ok (.iconst 0, 1) := by decide +kernel
theorem dX4_become_75 : decode cX4_become 75 = .ok (.iconst 3, 1) := by decide +kernel
theorem dX4_become_76 : decode cX4_become 76 = .ok (.invokestatic 92, 3) := by decide +kernel
theorem dX4_become_79 : decode cX4_become 79 = .ok (.aload_n 1, 1) := by decide +kernel
theorem dX4_become_80 : decode cX4_become 80 = .ok (.getfield 28, 3) := by decide +kernel
theorem dX4_become_83 : decode cX4_become 83 = .ok (.iconst 0, 1) := by decide +kernel
theorem dX4_become_84 : decode cX4_become 84 = .ok (.aload_n 0, 1) := by decide +kernel
theorem dX4_become_85 : decode cX4_become 85 = .ok (.getfield 28, 3) := by decide +kernel
theorem dX4_become_88 : decode cX4_become 88 = .ok (.iconst 0, 1) := by decide +kernel
theorem dX4_become_89 : decode cX4_become 89 = .ok (.iconst 3, 1) := by decide +kernel
theorem dX4_become_90 : decode cX4_become 90 = .ok (.invokestatic 92, 3) := by decide +kernel
theorem dX4_become_93 : decode cX4_become 93 = .ok (.aload_n 1, 1) := by decide +kernel
theorem dX4_become_94 : decode cX4_become 94 = .ok (.getfield 31, 3) := by decide +kernel
theorem dX4_become_97 : decode cX4_become 97 = .ok (.iconst 0, 1) := by decide +kernel
theorem dX4_become_98 : decode cX4_become 98 = .ok (.aload_n 0, 1) := by decide +kernel
theorem dX4_become_99 : decode cX4_become 99 = .ok (.getfield 31, 3) := by decide +kernel
theorem dX4_become_102 : decode cX4_become 102 = .ok (.iconst 0, 1) := by decide +kernel
theorem dX4_become_103 : decode cX4_become 103 = .ok (.iconst 3, 1) := by decide +kernel
theorem dX4_become_104 : decode cX4_become 104 = .ok (.invokestatic 92, 3) := by decide +kernel
theorem dX4_become_107 : decode cX4_become 107 = .ok (.aload_n 1, 1) := by decide +kernel
theorem dX4_become_108 : decode cX4_become 108 = .ok (.getfield 34, 3) := by decide +kernel
theorem dX4_become_111 : decode cX4_become 111 = .ok (.iconst 0, 1) := by decide +kernel
theorem dX4_become_112 : decode cX4_become 112 = .ok (.aload_n 0, 1) := by decide +kernel
theorem dX4_become_113 : decode cX4_become 113 = .ok (.getfield 34, 3) := by decide +kernel
theorem dX4_become_116 : decode cX4_become 116 = .ok (.iconst 0, 1) := by decide +kernel
theorem dX4_become_117 : decode cX4_become 117 = .ok (.iconst 3, 1) := by decide +kernel
theorem dX4_become_118 : decode cX4_become 118 = .ok (.invokestatic 92, 3) := by decide +kernel
theorem dX4_become_121 : decode cX4_become 121 = .ok (.aload_n 1, 1) := by decide +kernel
theorem dX4_become_122 : decode cX4_become 122 = .ok (.getfield 37, 3) := by decide +kernel
theorem dX4_become_125 : decode cX4_become 125 = .ok (.iconst 0, 1) := by decide +kernel
theorem dX4_become_126 : decode cX4_become 126 = .ok (.aload_n 0, 1) := by decide +kernel
theorem dX4_become_127 : decode cX4_become 127 = .ok (.getfield 37, 3) := by decide +kernel
theorem dX4_become_130 : decode cX4_become 130 = .ok (.iconst 0, 1) := by decide +kernel
theorem dX4_become_131 : decode cX4_become 131 = .ok (.iconst 3, 1) := by decide +kernel
theorem dX4_become_132 : decode cX4_become 132 = .ok (.invokestatic 92, 3) := by decide +kernel
theorem dX4_become_135 : decode cX4_become 135 = .ok (.aload_n 1, 1) := by decide +kernel
theorem dX4_become_136 : decode cX4_become 136 = .ok (.getfield 41, 3) := by decide +kernel
theorem dX4_become_139 : decode cX4_become 139 = .ok (.iconst 0, 1) := by decide +kernel
theorem dX4_become_140 : decode cX4_become 140 = .ok (.aload_n 0, 1) := by decide +kernel
theorem dX4_become_141 : decode cX4_become 141 = .ok (.getfield 41, 3) := by decide +kernel
theorem dX4_become_144 : decode cX4_become 144 = .ok (.iconst 0, 1) := by decide +kernel
theorem dX4_become_145 : decode cX4_become 145 = .ok (.iconst 4, 1) := by decide +kernel
theorem dX4_become_146 : decode cX4_become 146 = .ok (.invokestatic 92, 3) := by decide +kernel
theorem dX4_become_149 : decode cX4_become 149 = .ok (.aload_n 1, 1) := by decide +kernel
theorem dX4_become_150 : decode cX4_become 150 = .ok (.getfield 44, 3) := by decide +kernel
theorem dX4_become_153 : decode cX4_become 153 = .ok (.iconst 0, 1) := by decide +kernel
theorem dX4_become_154 : decode cX4_become 154 = .ok (.aload_n 0, 1) := by decide +kernel
theorem dX4_become_155 : decode cX4_become 155 = .ok (.getfield 44, 3) := by decide +kernel
theorem dX4_become_158 : decode cX4_become 158 = .ok (.iconst 0, 1) := by decide +kernel
theorem dX4_become_159 : decode cX4_become 159 = .ok (.iconst 4, 1) := by decide +kernel
theorem dX4_become_160 : decode cX4_become 160 = .ok (.invokestatic 92, 3) := by decide +kernel
theorem dX4_become_163 : decode cX4_become 163 = .ok (.aload_n 1, 1) := by decide +kernel
theorem dX4_become_164 : decode cX4_become 164 = .ok (.getfield 47, 3) := by decide +kernel
theorem dX4_become_167 : decode cX4_become 167 = .ok (.iconst 0, 1) := by decide +kernel
theorem dX4_become_168 : decode cX4_become 168 = .ok (.aload_n 0, 1) := by decide +kernel
theorem dX4_become_169 : decode cX4_become 169 = .ok (.getfield 47, 3) := by decide +kernel
theorem dX4_become_172 : decode cX4_become 172 = .ok (.iconst 0, 1) := by decide +kernel
theorem dX4_become_173 : decode cX4_become 173 = .ok (.iconst 3, 1) := by decide +kernel
theorem dX4_become_174 : decode cX4_become 174 = .ok (.invokestatic 92, 3) := by decide +kernel
theorem dX4_become_177 : decode cX4_become 177 = .ok (.return_, 1) := by decide +kernel
theorem dX10_mark_0 : decode cX10_mark 0 = .ok (.aload_n 0, 1) := by decide +kernel
theorem dX10_mark_1 : decode cX10_mark 1 = .ok (.invokevirtual 170, 3) := by decide +kernel
theorem dX10_mark_4 : decode cX10_mark 4 = .ok (.ifCond .ne 9, 3) := by decide +kernel
theorem dX10_mark_7 : decode cX10_mark 7 = .ok (.aload_n 0, 1) := by decide +kernel
theorem dX10_mark_8 : decode cX10_mark 8 = .ok (.iconst 1, 1) := by decide +kernel
theorem dX10_mark_9 : decode cX10_mark 9 = .ok (.invokevirtual 68, 3) := by decide +kernel
theorem dX10_mark_12 : decode cX10_mark 12 = .ok (.ireturn, 1) := by decide +kernel
theorem dX10_mark_13 : decode cX10_mark 13 = .ok (.aload_n 0, 1) := by decide +kernel
theorem dX10_mark_14 : decode cX10_mark 14 = .ok (.getfield 242, 3) := by decide +kernel
theorem dX10_mark_17 : decode cX10_mark 17 = .ok (.iconst 3, 1) := by decide +kernel
theorem dX10_mark_18 : decode cX10_mark 18 = .ok (.if_icmp .lt 9, 3) := by decide +kernel
theorem dX10_mark_21 : decode cX10_mark 21 = .ok (.aload_n 0, 1) := by decide +kernel
theorem dX10_mark_22 : decode cX10_mark 22 = .ok (.iconst 3, 1) := by decide +kernel
theorem dX10_mark_23 : decode cX10_mark 23 = .ok (.invokevirtual 68, 3) := by decide +kernel
theorem dX10_mark_26 : decode cX10_mark 26 = .ok (.ireturn, 1) := by decide +kernel
theorem dX10_mark_27 : decode cX10_mark 27 = .ok (.aload_n 0, 1) := by decide +kernel
theorem dX10_mark_28 : decode cX10_mark 28 = .ok (.getfield 36, 3) := by decide +kernel
theorem dX10_mark_31 : decode cX10_mark 31 = .ok (.aload_n 0, 1) := by decide +kernel
theorem dX10_mark_32 : decode cX10_mark 32 = .ok (.getfield 242, 3) := by decide +kernel
theorem dX10_mark_35 : decode cX10_mark 35 = .ok (.aaload, 1) := by decide +kernel
theorem dX10_mark_36 : decode cX10_mark 36 = .ok (.aload_n 0, 1) := by decide +kernel
theorem dX10_mark_37 : decode cX10_mark 37 = .ok (.getfield 32, 3) := by decide +kernel
theorem dX10_mark_40 : decode cX10_mark 40 = .ok (.invokevirtual 245, 3) := by decide +kernel
theorem dX10_mark_43 : decode cX10_mark 43 = .ok (.aload_n 0, 1) := by decide +kernel
theorem dX10_mark_44 : decode cX10_mark 44 = .ok (.dup, 1) := by decide +kernel
theorem dX10_mark_45 : decode cX10_mark 45 = .ok (.getfield 242, 3) := by decide +kernel
theorem dX10_mark_48 : decode cX10_mark 48 = .ok (.iconst 1, 1) := by decide +kernel
theorem dX10_mark_49 : decode cX10_mark 49 = .ok (.iadd, 1) := by decide +kernel
theorem dX10_mark_50 : decode cX10_mark 50 = .ok (.putfield 242, 3) := by decide +kernel
theorem dX10_mark_53 : decode cX10_mark 53 = .ok (.aload_n 0, 1) := by decide +kernel
theorem dX10_mark_54 : decode cX10_mark 54 = .ok (.aload_n 0, 1) := by decide +kernel
theorem dX10_mark_55 : decode cX10_mark 55 = .ok (.getfield 242, 3) := by decide +kernel
theorem dX10_mark_58 : decode cX10_mark 58 = .ok (.iconst 1, 1) := by decide +kernel
theorem dX10_mark_59 : decode cX10_mark 59 = .ok (.isub, 1) := by decide +kernel
theorem dX10_mark_60 : decode cX10_mark 60 = .ok (.invokevirtual 95, 3) := by decide +kernel
theorem dX10_mark_63 : decode cX10_mark 63 = .ok (.ireturn, 1) := by decide +kernel
theorem dX10_back_0 : decode cX10_back 0 = .ok (.iload_n 1, 1) := by decide +kernel
theorem dX10_back_1 : decode cX10_back 1 = .ok (.aload_n 0, 1) := by decide +kernel
theorem dX10_back_2 : decode cX10_back 2 = .ok (.getfield 242, 3) := by decide +kernel
theorem dX10_back_5 : decode cX10_back 5 = .ok (.invokestatic 121, 3) := by decide +kernel
theorem dX10_back_8 : decode cX10_back 8 = .ok (.ifCond .ne 9, 3) := by decide +kernel
theorem dX10_back_11 : decode cX10_back 11 = .ok (.aload_n 0, 1) := by decide +kernel
theorem dX10_back_12 : decode cX10_back 12 = .ok (.iconst 1, 1) := by decide +kernel
theorem dX10_back_13 : decode cX10_back 13 = .ok (.invokevirtual 152, 3) := by decide +kernel
theorem dX10_back_16 : decode cX10_back 16 = .ok (.ireturn, 1) := by decide +kernel
theorem dX10_back_17 : decode cX10_back 17 = .ok (.aload_n 0, 1) := by decide +kernel
theorem dX10_back_18 : decode cX10_back 18 = .ok (.getfield 32, 3) := by decide +kernel
theorem dX10_back_21 : decode cX10_back 21 = .ok (.aload_n 0, 1) := by decide +kernel
theorem dX10_back_22 : decode cX10_back 22 = .ok (.getfield 36, 3) := by decide +kernel
theorem dX10_back_25 : decode cX10_back 25 = .ok (.iload_n 1, 1) := by decide +kernel
theorem dX10_back_26 : decode cX10_back 26 = .ok (.aaload, 1) := by decide +kernel
theorem dX10_back_27 : decode cX10_back 27 = .ok (.invokevirtual 245, 3) := by decide +kernel
theorem dX10_back_30 : decode cX10_back 30 = .ok (.aload_n 0, 1) := by decide +kernel
theorem dX10_back_31 : decode cX10_back 31 = .ok (.invokevirtual 163, 3) := by decide +kernel
theorem dX10_back_34 : decode cX10_back 34 = .ok (.ireturn, 1) := by decide +kernel
theorem dX10_isBook_0 : decode cX10_isBook 0 = .ok (.iload_n 0, 1) := by decide +kernel
theorem dX10_isBook_1 : decode cX10_isBook 1 = .ok (.iconst 2, 1) := by decide +kernel
theorem dX10_isBook_2 : decode cX10_isBook 2 = .ok (.invokestatic 121, 3) := by decide +kernel
theorem dX10_isBook_5 : decode cX10_isBook 5 = .ok (.ireturn, 1) := by decide +kernel
theorem dX5_add_0 : decode cX5_add 0 = .ok (.aload_n 0, 1) := by decide +kernel
theorem dX5_add_1 : decode cX5_add 1 = .ok (.getfield 9, 3) := by decide +kernel
theorem dX5_add_4 : decode cX5_add 4 = .ok (.aload_n 0, 1) := by decide +kernel
theorem dX5_add_5 : decode cX5_add 5 = .ok (.getfield 24, 3) := by decide +kernel
theorem dX5_add_8 : decode cX5_add 8 = .ok (.iload_n 1, 1) := by decide +kernel
theorem dX5_add_9 : decode cX5_add 9 = .ok (.iastore, 1) := by decide +kernel
theorem dX5_add_10 : decode cX5_add 10 = .ok (.aload_n 0, 1) := by decide +kernel
theorem dX5_add_11 : decode cX5_add 11 = .ok (.getfield 15, 3) := by decide +kernel
theorem dX5_add_14 : decode cX5_add 14 = .ok (.aload_n 0, 1) := by decide +kernel
theorem dX5_add_15 : decode cX5_add 15 = .ok (.getfield 24, 3) := by decide +kernel
theorem dX5_add_18 : decode cX5_add 18 = .ok (.iload_n 2, 1) := by decide +kernel
theorem dX5_add_19 : decode cX5_add 19 = .ok (.iastore, 1) := by decide +kernel
theorem dX5_add_20 : decode cX5_add 20 = .ok (.aload_n 0, 1) := by decide +kernel
theorem dX5_add_21 : decode cX5_add 21 = .ok (.getfield 18, 3) := by decide +kernel
theorem dX5_add_24 : decode cX5_add 24 = .ok (.aload_n 0, 1) := by decide +kernel
theorem dX5_add_25 : decode cX5_add 25 = .ok (.getfield 24, 3) := by decide +kernel
theorem dX5_add_28 : decode cX5_add 28 = .ok (.iload_n 3, 1) := by decide +kernel
theorem dX5_add_29 : decode cX5_add 29 = .ok (.iastore, 1) := by decide +kernel
theorem dX5_add_30 : decode cX5_add 30 = .ok (.aload_n 0, 1) := by decide +kernel
theorem dX5_add_31 : decode cX5_add 31 = .ok (.getfield 21, 3) := by decide +kernel
theorem dX5_add_34 : decode cX5_add 34 = .ok (.aload_n 0, 1) := by decide +kernel
theorem dX5_add_35 : decode cX5_add 35 = .ok (.getfield 24, 3) := by decide +kernel
theorem dX5_add_38 : decode cX5_add 38 = .ok (.iload 4, 2) := by decide +kernel
theorem dX5_add_40 : decode cX5_add 40 = .ok (.iastore, 1) := by decide +kernel
theorem dX5_add_41 : decode cX5_add 41 = .ok (.aload_n 0, 1) := by decide +kernel
theorem dX5_add_42 : decode cX5_add 42 = .ok (.dup, 1) := by decide +kernel
theorem dX5_add_43 : decode cX5_add 43 = .ok (.getfield 24, 3) := by decide +kernel
theorem dX5_add_46 : decode cX5_add 46 = .ok (.iconst 1, 1) := by decide +kernel
theorem dX5_add_47 : decode cX5_add 47 = .ok (.iadd, 1) := by decide +kernel
theorem dX5_add_48 : decode cX5_add 48 = .ok (.putfield 24, 3) := by decide +kernel
theorem dX5_add_51 : decode cX5_add 51 = .ok (.return_, 1) := by decide +kernel
theorem dX10_write_0 : decode cX10_write 0 = .ok (.aload_n 0, 1) := by decide +kernel
theorem dX10_write_1 : decode cX10_write 1 = .ok (.getfield 43, 3) := by decide +kernel
theorem dX10_write_4 : decode cX10_write 4 = .ok (.getfield 256, 3) := by decide +kernel
theorem dX10_write_7 : decode cX10_write 7 = .ok (.bipush 20, 2) := by decide +kernel
theorem dX10_write_9 : decode cX10_write 9 = .ok (.if_icmp .lt 9, 3) := by decide +kernel
theorem dX10_write_12 : decode cX10_write 12 = .ok (.aload_n 0, 1) := by decide +kernel
theorem dX10_write_13 : decode cX10_write 13 = .ok (.iconst 3, 1) := by decide +kernel
theorem dX10_write_14 : decode cX10_write 14 = .ok (.invokevirtual 68, 3) := by decide +kernel
theorem dX10_write_17 : decode cX10_write 17 = .ok (.ireturn, 1) := by decide +kernel
theorem dX10_write_18 : decode cX10_write 18 = .ok (.aload_n 0, 1) := by decide +kernel
theorem dX10_write_19 : decode cX10_write 19 = .ok (.getfield 43, 3) := by decide +kernel
theorem dX10_write_22 : decode cX10_write 22 = .ok (.iload_n 1, 1) := by decide +kernel
theorem dX10_write_23 : decode cX10_write 23 = .ok (.iload_n 2, 1) := by decide +kernel
theorem dX10_write_24 : decode cX10_write 24 = .ok (.iload_n 3, 1) := by decide +kernel
theorem dX10_write_25 : decode cX10_write 25 = .ok (.iload 4, 2) := by decide +kernel
theorem dX10_write_27 : decode cX10_write 27 = .ok (.invokevirtual 332, 3) := by decide +kernel
theorem dX10_write_30 : decode cX10_write 30 = .ok (.aload_n 0, 1) := by decide +kernel
theorem dX10_write_31 : decode cX10_write 31 = .ok (.aload_n 0, 1) := by decide +kernel
theorem dX10_write_32 : decode cX10_write 32 = .ok (.getfield 43, 3) := by decide +kernel
theorem dX10_write_35 : decode cX10_write 35 = .ok (.getfield 256, 3) := by decide +kernel
theorem dX10_write_38 : decode cX10_write 38 = .ok (.invokevirtual 95, 3) := by decide +kernel
theorem dX10_write_41 : decode cX10_write 41 = .ok (.ireturn, 1) := by decide +kernel
theorem dX10_noteHeard_0 : decode cX10_noteHeard 0 = .ok (.iload_n 1, 1) := by decide +kernel
theorem dX10_noteHeard_1 : decode cX10_noteHeard 1 = .ok (.invokestatic 249, 3) := by decide +kernel
theorem dX10_noteHeard_4 : decode cX10_noteHeard 4 = .ok (.ifCond .eq 11, 3) := by decide +kernel
theorem dX10_noteHeard_7 : decode cX10_noteHeard 7 = .ok (.aload_n 0, 1) := by decide +kernel
theorem dX10_noteHeard_8 : decode cX10_noteHeard 8 = .ok (.iload_n 2, 1) := by decide +kernel
theorem dX10_noteHeard_9 : decode cX10_noteHeard 9 = .ok (.invokevirtual 222, 3) := by decide +kernel
theorem dX10_noteHeard_12 : decode cX10_noteHeard 12 = .ok (.ifCond .ne 9, 3) := by decide +kernel
theorem dX10_noteHeard_15 : decode cX10_noteHeard 15 = .ok (.aload_n 0, 1) := by decide +kernel
theorem dX10_noteHeard_16 : decode cX10_noteHeard 16 = .ok (.iconst 1, 1) := by decide +kernel
theorem dX10_noteHeard_17 : decode cX10_noteHeard 17 = .ok (.invokevirtual 68, 3) := by decide +kernel
theorem dX10_noteHeard_20 : decode cX10_noteHeard 20 = .ok (.ireturn, 1) := by decide +kernel
theorem dX10_noteHeard_21 : decode cX10_noteHeard 21 = .ok (.iload_n 3, 1) := by decide +kernel
theorem dX10_noteHeard_22 : decode cX10_noteHeard 22 = .ok (.iconst 1, 1) := by decide +kernel
theorem dX10_noteHeard_23 : decode cX10_noteHeard 23 = .ok (.if_icmp .lt 14, 3) := by decide +kernel
theorem dX10_noteHeard_26 : decode cX10_noteHeard 26 = .ok (.iload_n 3, 1) := by decide +kernel
theorem dX10_noteHeard_27 : decode cX10_noteHeard 27 = .ok (.aload_n 0, 1) := by decide +kernel
theorem dX10_noteHeard_28 : decode cX10_noteHeard 28 = .ok (.getfield 19, 3) := by decide +kernel
theorem dX10_noteHeard_31 : decode cX10_noteHeard 31 = .ok (.getfield 172, 3) := by decide +kernel
theorem dX10_noteHeard_34 : decode cX10_noteHeard 34 = .ok (.if_icmp .le 9, 3) := by decide +kernel
theorem dX10_noteHeard_37 : decode cX10_noteHeard 37 = .ok (.aload_n 0, 1) := by decide +kernel
theorem dX10_noteHeard_38 : decode cX10_noteHeard 38 = .ok (.iconst 2, 1) := by decide +kernel
theorem dX10_noteHeard_39 : decode cX10_noteHeard 39 = .ok (.invokevirtual 68, 3) := by decide +kernel
theorem dX10_noteHeard_42 : decode cX10_noteHeard 42 = .ok (.ireturn, 1) := by decide +kernel
theorem dX10_noteHeard_43 : decode cX10_noteHeard 43 = .ok (.aload_n 0, 1) := by decide +kernel
theorem dX10_noteHeard_44 : decode cX10_noteHeard 44 = .ok (.iload_n 1, 1) := by decide +kernel
theorem dX10_noteHeard_45 : decode cX10_noteHeard 45 = .ok (.iload 4, 2) := by decide +kernel
theorem dX10_noteHeard_47 : decode cX10_noteHeard 47 = .ok (.ifCond .eq 7, 3) := by decide +kernel
theorem dX10_noteHeard_50 : decode cX10_noteHeard 50 = .ok (.iconst 0, 1) := by decide +kernel
theorem dX10_noteHeard_51 : decode cX10_noteHeard 51 = .ok (.goto 4, 3) := by decide +kernel
theorem dX10_noteHeard_54 : decode cX10_noteHeard 54 = .ok (.iconst 1, 1) := by decide +kernel
theorem dX10_noteHeard_55 : decode cX10_noteHeard 55 = .ok (.iload_n 2, 1) := by decide +kernel
theorem dX10_noteHeard_56 : decode cX10_noteHeard 56 = .ok (.iload_n 3, 1) := by decide +kernel
theorem dX10_noteHeard_57 : decode cX10_noteHeard 57 = .ok (.invokevirtual 252, 3) := by decide +kernel
theorem dX10_noteHeard_60 : decode cX10_noteHeard 60 = .ok (.ireturn, 1) := by decide +kernel
theorem dX10_noteThing_0 : decode cX10_noteThing 0 = .ok (.iload_n 1, 1) := by decide +kernel
theorem dX10_noteThing_1 : decode cX10_noteThing 1 = .ok (.invokestatic 249, 3) := by decide +kernel
theorem dX10_noteThing_4 : decode cX10_noteThing 4 = .ok (.ifCond .eq 19, 3) := by decide +kernel
theorem dX10_noteThing_7 : decode cX10_noteThing 7 = .ok (.aload_n 0, 1) := by decide +kernel
theorem dX10_noteThing_8 : decode cX10_noteThing 8 = .ok (.iload_n 2, 1) := by decide +kernel
theorem dX10_noteThing_9 : decode cX10_noteThing 9 = .ok (.invokevirtual 201, 3) := by decide +kernel
theorem dX10_noteThing_12 : decode cX10_noteThing 12 = .ok (.ifCond .eq 11, 3) := by decide +kernel
theorem dX10_noteThing_15 : decode cX10_noteThing 15 = .ok (.aload_n 0, 1) := by decide +kernel
theorem dX10_noteThing_16 : decode cX10_noteThing 16 = .ok (.iload_n 3, 1) := by decide +kernel
theorem dX10_noteThing_17 : decode cX10_noteThing 17 = .ok (.invokevirtual 101, 3) := by decide +kernel
theorem dX10_noteThing_20 : decode cX10_noteThing 20 = .ok (.ifCond .ne 9, 3) := by decide +kernel
theorem dX10_noteThing_23 : decode cX10_noteThing 23 = .ok (.aload_n 0, 1) := by decide +kernel
theorem dX10_noteThing_24 : decode cX10_noteThing 24 = .ok (.iconst 1, 1) := by decide +kernel
theorem dX10_noteThing_25 : decode cX10_noteThing 25 = .ok (.invokevirtual 68, 3) := by decide +kernel
theorem dX10_noteThing_28 : decode cX10_noteThing 28 = .ok (.ireturn, 1) := by decide +kernel
theorem dX10_noteThing_29 : decode cX10_noteThing 29 = .ok (.aload_n 0, 1) := by decide +kernel
theorem dX10_noteThing_30 : decode cX10_noteThing 30 = .ok (.iload_n 1, 1) := by decide +kernel
theorem dX10_noteThing_31 : decode cX10_noteThing 31 = .ok (.iconst 2, 1) := by decide +kernel
theorem dX10_noteThing_32 : decode cX10_noteThing 32 = .ok (.iload_n 2, 1) := by decide +kernel
theorem dX10_noteThing_33 : decode cX10_noteThing 33 = .ok (.iload_n 3, 1) := by decide +kernel
theorem dX10_noteThing_34 : decode cX10_noteThing 34 = .ok (.invokevirtual 252, 3) := by decide +kernel
theorem dX10_noteThing_37 : decode cX10_noteThing 37 = .ok (.ireturn, 1) := by decide +kernel
theorem dX10_noteDoor_0 : decode cX10_noteDoor 0 = .ok (.iload_n 1, 1) := by decide +kernel
theorem dX10_noteDoor_1 : decode cX10_noteDoor 1 = .ok (.invokestatic 249, 3) := by decide +kernel
theorem dX10_noteDoor_4 : decode cX10_noteDoor 4 = .ok (.ifCond .eq 11, 3) := by decide +kernel
theorem dX10_noteDoor_7 : decode cX10_noteDoor 7 = .ok (.aload_n 0, 1) := by decide +kernel
theorem dX10_noteDoor_8 : decode cX10_noteDoor 8 = .ok (.iload_n 2, 1) := by decide +kernel
theorem dX10_noteDoor_9 : decode cX10_noteDoor 9 = .ok (.invokevirtual 213, 3) := by decide +kernel
theorem dX10_noteDoor_12 : decode cX10_noteDoor 12 = .ok (.ifCond .ne 9, 3) := by decide +kernel
theorem dX10_noteDoor_15 : decode cX10_noteDoor 15 = .ok (.aload_n 0, 1) := by decide +kernel
theorem dX10_noteDoor_16 : decode cX10_noteDoor 16 = .ok (.iconst 1, 1) := by decide +kernel
theorem dX10_noteDoor_17 : decode cX10_noteDoor 17 = .ok (.invokevirtual 68, 3) := by decide +kernel
theorem dX10_noteDoor_20 : decode cX10_noteDoor 20 = .ok (.ireturn, 1) := by decide +kernel
theorem dX10_noteDoor_21 : decode cX10_noteDoor 21 = .ok (.iload_n 3, 1) := by decide +kernel
theorem dX10_noteDoor_22 : decode cX10_noteDoor 22 = .ok (.ifCond .lt 8, 3) := by decide +kernel
theorem dX10_noteDoor_25 : decode cX10_noteDoor 25 = .ok (.iload_n 3, 1) := by decide +kernel
theorem dX10_noteDoor_26 : decode cX10_noteDoor 26 = .ok (.iconst 2, 1) := by decide +kernel
theorem dX10_noteDoor_27 : decode cX10_noteDoor 27 = .ok (.if_icmp .le 9, 3) := by decide +kernel
theorem dX10_noteDoor_30 : decode cX10_noteDoor 30 = .ok (.aload_n 0, 1) := by decide +kernel
theorem dX10_noteDoor_31 : decode cX10_noteDoor 31 = .ok (.iconst 2, 1) := by decide +kernel
theorem dX10_noteDoor_32 : decode cX10_noteDoor 32 = .ok (.invokevirtual 68, 3) := by decide +kernel
theorem dX10_noteDoor_35 : decode cX10_noteDoor 35 = .ok (.ireturn, 1) := by decide +kernel
theorem dX10_noteDoor_36 : decode cX10_noteDoor 36 = .ok (.aload_n 0, 1) := by decide +kernel
theorem dX10_noteDoor_37 : decode cX10_noteDoor 37 = .ok (.iload_n 1, 1) := by decide +kernel
theorem dX10_noteDoor_38 : decode cX10_noteDoor 38 = .ok (.iconst 3, 1) := by decide +kernel
theorem dX10_noteDoor_39 : decode cX10_noteDoor 39 = .ok (.iload_n 2, 1) := by decide +kernel
theorem dX10_noteDoor_40 : decode cX10_noteDoor 40 = .ok (.iload_n 3, 1) := by decide +kernel
theorem dX10_noteDoor_41 : decode cX10_noteDoor 41 = .ok (.invokevirtual 252, 3) := by decide +kernel
theorem dX10_noteDoor_44 : decode cX10_noteDoor 44 = .ok (.ireturn, 1) := by decide +kernel
theorem dX10_strike_0 : decode cX10_strike 0 = .ok (.aload_n 0, 1) := by decide +kernel
theorem dX10_strike_1 : decode cX10_strike 1 = .ok (.getfield 43, 3) := by decide +kernel
theorem dX10_strike_4 : decode cX10_strike 4 = .ok (.getfield 256, 3) := by decide +kernel
theorem dX10_strike_7 : decode cX10_strike 7 = .ok (.ifCond .ne 10, 3) := by decide +kernel
theorem dX10_strike_10 : decode cX10_strike 10 = .ok (.aload_n 0, 1) := by decide +kernel
theorem dX10_strike_11 : decode cX10_strike 11 = .ok (.bipush 6, 2) := by decide +kernel
theorem dX10_strike_13 : decode cX10_strike 13 = .ok (.invokevirtual 152, 3) := by decide +kernel
theorem dX10_strike_16 : decode cX10_strike 16 = .ok (.ireturn, 1) := by decide +kernel
theorem dX10_strike_17 : decode cX10_strike 17 = .ok (.aload_n 0, 1) := by decide +kernel
theorem dX10_strike_18 : decode cX10_strike 18 = .ok (.getfield 43, 3) := by decide +kernel
theorem dX10_strike_21 : decode cX10_strike 21 = .ok (.dup, 1) := by decide +kernel
theorem dX10_strike_22 : decode cX10_strike 22 = .ok (.getfield 256, 3) := by decide +kernel
theorem dX10_strike_25 : decode cX10_strike 25 = .ok (.iconst 1, 1) := by decide +kernel
theorem dX10_strike_26 : decode cX10_strike 26 = .ok (.isub, 1) := by decide +kernel
theorem dX10_strike_27 : decode cX10_strike 27 = .ok (.putfield 256, 3) := by decide +kernel
theorem dX10_strike_30 : decode cX10_strike 30 = .ok (.aload_n 0, 1) := by decide +kernel
theorem dX10_strike_31 : decode cX10_strike 31 = .ok (.invokevirtual 163, 3) := by decide +kernel
theorem dX10_strike_34 : decode cX10_strike 34 = .ok (.ireturn, 1) := by decide +kernel
theorem dX10_areBooks_0 : decode cX10_areBooks 0 = .ok (.iload_n 0, 1) := by decide +kernel
theorem dX10_areBooks_1 : decode cX10_areBooks 1 = .ok (.iconst 4, 1) := by decide +kernel
theorem dX10_areBooks_2 : decode cX10_areBooks 2 = .ok (.invokestatic 121, 3) := by decide +kernel
theorem dX10_areBooks_5 : decode cX10_areBooks 5 = .ok (.ireturn, 1) := by decide +kernel
theorem dX3_wasHeard_0 : decode cX3_wasHeard 0 = .ok (.aload_n 0, 1) := by decide +kernel
theorem dX3_wasHeard_1 : decode cX3_wasHeard 1 = .ok (.getfield 11, 3) := by decide +kernel
theorem dX3_wasHeard_4 : decode cX3_wasHeard 4 = .ok (.iload_n 1, 1) := by decide +kernel
theorem dX3_wasHeard_5 : decode cX3_wasHeard 5 = .ok (.iconst 4, 1) := by decide +kernel
theorem dX3_wasHeard_6 : decode cX3_wasHeard 6 = .ok (.imul, 1) := by decide +kernel
theorem dX3_wasHeard_7 : decode cX3_wasHeard 7 = .ok (.iload_n 2, 1) := by decide +kernel
theorem dX3_wasHeard_8 : decode cX3_wasHeard 8 = .ok (.iadd, 1) := by decide +kernel
theorem dX3_wasHeard_9 : decode cX3_wasHeard 9 = .ok (.laload, 1) := by decide +kernel
theorem dX3_wasHeard_10 : decode cX3_wasHeard 10 = .ok (.iload_n 3, 1) := by decide +kernel
theorem dX3_wasHeard_11 : decode cX3_wasHeard 11 = .ok (.invokestatic 73, 3) := by decide +kernel
theorem dX3_wasHeard_14 : decode cX3_wasHeard 14 = .ok (.ireturn, 1) := by decide +kernel
theorem dX3_roomOfThing_0 : decode cX3_roomOfThing 0 = .ok (.aload_n 0, 1) := by decide +kernel
theorem dX3_roomOfThing_1 : decode cX3_roomOfThing 1 = .ok (.getfield 11, 3) := by decide +kernel
theorem dX3_roomOfThing_4 : decode cX3_roomOfThing 4 = .ok (.iload_n 1, 1) := by decide +kernel
theorem dX3_roomOfThing_5 : decode cX3_roomOfThing 5 = .ok (.iconst 4, 1) := by decide +kernel
theorem dX3_roomOfThing_6 : decode cX3_roomOfThing 6 = .ok (.imul, 1) := by decide +kernel
theorem dX3_roomOfThing_7 : decode cX3_roomOfThing 7 = .ok (.iconst 3, 1) := by decide +kernel
theorem dX3_roomOfThing_8 : decode cX3_roomOfThing 8 = .ok (.iadd, 1) := by decide +kernel
theorem dX3_roomOfThing_9 : decode cX3_roomOfThing 9 = .ok (.laload, 1) := by decide +kernel
theorem dX3_roomOfThing_10 : decode cX3_roomOfThing 10 = .ok (.iconst 4, 1) := by decide +kernel
theorem dX3_roomOfThing_11 : decode cX3_roomOfThing 11 = .ok (.iload_n 2, 1) := by decide +kernel
theorem dX3_roomOfThing_12 : decode cX3_roomOfThing 12 = .ok (.imul, 1) := by decide +kernel
theorem dX3_roomOfThing_13 : decode cX3_roomOfThing 13 = .ok (.iconst 1, 1) := by decide +kernel
theorem dX3_roomOfThing_14 : decode cX3_roomOfThing 14 = .ok (.iadd, 1) := by decide +kernel
theorem dX3_roomOfThing_15 : decode cX3_roomOfThing 15 = .ok (.lushr, 1) := by decide +kernel
theorem dX3_roomOfThing_16 : decode cX3_roomOfThing 16 = .ok (.l2i, 1) := by decide +kernel
theorem dX3_roomOfThing_17 : decode cX3_roomOfThing 17 = .ok (.bipush 7, 2) := by decide +kernel
theorem dX3_roomOfThing_19 : decode cX3_roomOfThing 19 = .ok (.iand, 1) := by decide +kernel
theorem dX3_roomOfThing_20 : decode cX3_roomOfThing 20 = .ok (.ireturn, 1) := by decide +kernel
theorem dX3_howIsDoor_0 : decode cX3_howIsDoor 0 = .ok (.aload_n 0, 1) := by decide +kernel
theorem dX3_howIsDoor_1 : decode cX3_howIsDoor 1 = .ok (.getfield 11, 3) := by decide +kernel
theorem dX3_howIsDoor_4 : decode cX3_howIsDoor 4 = .ok (.iload_n 1, 1) := by decide +kernel
theorem dX3_howIsDoor_5 : decode cX3_howIsDoor 5 = .ok (.iconst 4, 1) := by decide +kernel
theorem dX3_howIsDoor_6 : decode cX3_howIsDoor 6 = .ok (.imul, 1) := by decide +kernel
theorem dX3_howIsDoor_7 : decode cX3_howIsDoor 7 = .ok (.iconst 3, 1) := by decide +kernel
theorem dX3_howIsDoor_8 : decode cX3_howIsDoor 8 = .ok (.iadd, 1) := by decide +kernel
theorem dX3_howIsDoor_9 : decode cX3_howIsDoor 9 = .ok (.laload, 1) := by decide +kernel
theorem dX3_howIsDoor_10 : decode cX3_howIsDoor 10 = .ok (.bipush 16, 2) := by decide +kernel
theorem dX3_howIsDoor_12 : decode cX3_howIsDoor 12 = .ok (.iconst 2, 1) := by decide +kernel
theorem dX3_howIsDoor_13 : decode cX3_howIsDoor 13 = .ok (.iload_n 2, 1) := by decide +kernel
theorem dX3_howIsDoor_14 : decode cX3_howIsDoor 14 = .ok (.imul, 1) := by decide +kernel
theorem dX3_howIsDoor_15 : decode cX3_howIsDoor 15 = .ok (.iadd, 1) := by decide +kernel
theorem dX3_howIsDoor_16 : decode cX3_howIsDoor 16 = .ok (.lushr, 1) := by decide +kernel
theorem dX3_howIsDoor_17 : decode cX3_howIsDoor 17 = .ok (.l2i, 1) := by decide +kernel
theorem dX3_howIsDoor_18 : decode cX3_howIsDoor 18 = .ok (.iconst 3, 1) := by decide +kernel
theorem dX3_howIsDoor_19 : decode cX3_howIsDoor 19 = .ok (.iand, 1) := by decide +kernel
theorem dX3_howIsDoor_20 : decode cX3_howIsDoor 20 = .ok (.ireturn, 1) := by decide +kernel
theorem dX5_isSo_0 : decode cX5_isSo 0 = .ok (.aload_n 0, 1) := by decide +kernel
theorem dX5_isSo_1 : decode cX5_isSo 1 = .ok (.getfield 15, 3) := by decide +kernel
theorem dX5_isSo_4 : decode cX5_isSo 4 = .ok (.iload_n 1, 1) := by decide +kernel
theorem dX5_isSo_5 : decode cX5_isSo 5 = .ok (.iaload, 1) := by decide +kernel
theorem dX5_isSo_6 : decode cX5_isSo 6 = .ok (.tableswitch 96 0 2 #[26, 44, 70], 26) := by decide +kernel
theorem dX5_isSo_32 : decode cX5_isSo 32 = .ok (.aload_n 2, 1) := by decide +kernel
theorem dX5_isSo_33 : decode cX5_isSo 33 = .ok (.iload_n 3, 1) := by decide +kernel
theorem dX5_isSo_34 : decode cX5_isSo 34 = .ok (.aload_n 0, 1) := by decide +kernel
theorem dX5_isSo_35 : decode cX5_isSo 35 = .ok (.getfield 18, 3) := by decide +kernel
theorem dX5_isSo_38 : decode cX5_isSo 38 = .ok (.iload_n 1, 1) := by decide +kernel
theorem dX5_isSo_39 : decode cX5_isSo 39 = .ok (.iaload, 1) := by decide +kernel
theorem dX5_isSo_40 : decode cX5_isSo 40 = .ok (.aload_n 0, 1) := by decide +kernel
theorem dX5_isSo_41 : decode cX5_isSo 41 = .ok (.getfield 21, 3) := by decide +kernel
theorem dX5_isSo_44 : decode cX5_isSo 44 = .ok (.iload_n 1, 1) := by decide +kernel
theorem dX5_isSo_45 : decode cX5_isSo 45 = .ok (.iaload, 1) := by decide +kernel
theorem dX5_isSo_46 : decode cX5_isSo 46 = .ok (.invokevirtual 36, 3) := by decide +kernel
theorem dX5_isSo_49 : decode cX5_isSo 49 = .ok (.ireturn, 1) := by decide +kernel
theorem dX5_isSo_50 : decode cX5_isSo 50 = .ok (.aload_n 2, 1) := by decide +kernel
theorem dX5_isSo_51 : decode cX5_isSo 51 = .ok (.iload_n 3, 1) := by decide +kernel
theorem dX5_isSo_52 : decode cX5_isSo 52 = .ok (.aload_n 0, 1) := by decide +kernel
theorem dX5_isSo_53 : decode cX5_isSo 53 = .ok (.getfield 18, 3) := by decide +kernel
theorem dX5_isSo_56 : decode cX5_isSo 56 = .ok (.iload_n 1, 1) := by decide +kernel
theorem dX5_isSo_57 : decode cX5_isSo 57 = .ok (.iaload, 1) := by decide +kernel
theorem dX5_isSo_58 : decode cX5_isSo 58 = .ok (.aload_n 0, 1) := by decide +kernel
theorem dX5_isSo_59 : decode cX5_isSo 59 = .ok (.getfield 21, 3) := by decide +kernel
theorem dX5_isSo_62 : decode cX5_isSo 62 = .ok (.iload_n 1, 1) := by decide +kernel
theorem dX5_isSo_63 : decode cX5_isSo 63 = .ok (.iaload, 1) := by decide +kernel
theorem dX5_isSo_64 : decode cX5_isSo 64 = .ok (.invokevirtual 36, 3) := by decide +kernel
theorem dX5_isSo_67 : decode cX5_isSo 67 = .ok (.ifCond .ne 7, 3) := by decide +kernel
theorem dX5_isSo_70 : decode cX5_isSo 70 = .ok (.iconst 1, 1) := by decide +kernel
theorem dX5_isSo_71 : decode cX5_isSo 71 = .ok (.goto 4, 3) := by decide +kernel
theorem dX5_isSo_74 : decode cX5_isSo 74 = .ok (.iconst 0, 1) := by decide +kernel
theorem dX5_isSo_75 : decode cX5_isSo 75 = .ok (.ireturn, 1) := by decide +kernel
theorem dX5_isSo_76 : decode cX5_isSo 76 = .ok (.aload_n 2, 1) := by decide +kernel
theorem dX5_isSo_77 : decode cX5_isSo 77 = .ok (.iload_n 3, 1) := by decide +kernel
theorem dX5_isSo_78 : decode cX5_isSo 78 = .ok (.aload_n 0, 1) := by decide +kernel
theorem dX5_isSo_79 : decode cX5_isSo 79 = .ok (.getfield 18, 3) := by decide +kernel
theorem dX5_isSo_82 : decode cX5_isSo 82 = .ok (.iload_n 1, 1) := by decide +kernel
theorem dX5_isSo_83 : decode cX5_isSo 83 = .ok (.iaload, 1) := by decide +kernel
theorem dX5_isSo_84 : decode cX5_isSo 84 = .ok (.invokevirtual 42, 3) := by decide +kernel
theorem dX5_isSo_87 : decode cX5_isSo 87 = .ok (.aload_n 0, 1) := by decide +kernel
theorem dX5_isSo_88 : decode cX5_isSo 88 = .ok (.getfield 21, 3) := by decide +kernel
theorem dX5_isSo_91 : decode cX5_isSo 91 = .ok (.iload_n 1, 1) := by decide +kernel
theorem dX5_isSo_92 : decode cX5_isSo 92 = .ok (.iaload, 1) := by decide +kernel
theorem dX5_isSo_93 : decode cX5_isSo 93 = .ok (.if_icmp .ne 7, 3) := by decide +kernel
theorem dX5_isSo_96 : decode cX5_isSo 96 = .ok (.iconst 1, 1) := by decide +kernel
theorem dX5_isSo_97 : decode cX5_isSo 97 = .ok (.goto 4, 3) := by decide +kernel
theorem dX5_isSo_100 : decode cX5_isSo 100 = .ok (.iconst 0, 1) := by decide +kernel
theorem dX5_isSo_101 : decode cX5_isSo 101 = .ok (.ireturn, 1) := by decide +kernel
theorem dX5_isSo_102 : decode cX5_isSo 102 = .ok (.aload_n 2, 1) := by decide +kernel
theorem dX5_isSo_103 : decode cX5_isSo 103 = .ok (.iload_n 3, 1) := by decide +kernel
theorem dX5_isSo_104 : decode cX5_isSo 104 = .ok (.aload_n 0, 1) := by decide +kernel
theorem dX5_isSo_105 : decode cX5_isSo 105 = .ok (.getfield 18, 3) := by decide +kernel
theorem dX5_isSo_108 : decode cX5_isSo 108 = .ok (.iload_n 1, 1) := by decide +kernel
theorem dX5_isSo_109 : decode cX5_isSo 109 = .ok (.iaload, 1) := by decide +kernel
theorem dX5_isSo_110 : decode cX5_isSo 110 = .ok (.invokevirtual 46, 3) := by decide +kernel
theorem dX5_isSo_113 : decode cX5_isSo 113 = .ok (.aload_n 0, 1) := by decide +kernel
theorem dX5_isSo_114 : decode cX5_isSo 114 = .ok (.getfield 21, 3) := by decide +kernel
theorem dX5_isSo_117 : decode cX5_isSo 117 = .ok (.iload_n 1, 1) := by decide +kernel
theorem dX5_isSo_118 : decode cX5_isSo 118 = .ok (.iaload, 1) := by decide +kernel
theorem dX5_isSo_119 : decode cX5_isSo 119 = .ok (.if_icmp .ne 7, 3) := by decide +kernel
theorem dX5_isSo_122 : decode cX5_isSo 122 = .ok (.iconst 1, 1) := by decide +kernel
theorem dX5_isSo_123 : decode cX5_isSo 123 = .ok (.goto 4, 3) := by decide +kernel
theorem dX5_isSo_126 : decode cX5_isSo 126 = .ok (.iconst 0, 1) := by decide +kernel
theorem dX5_isSo_127 : decode cX5_isSo 127 = .ok (.ireturn, 1) := by decide +kernel
def wX10_room (E : EN) (h h_reader h_inn h_chosen h_night h_marks h_notes h_casts h_inn_house h_inn_thingIn h_inn_full h_inn_states h_inn_bed h_inn_dreamOf h_inn_listensIn h_inn_house_creak h_inn_house_cold h_inn_house_one h_inn_house_other h_inn_house_how h_inn_house_falls h_inn_house_ways : Nat) (v_marked : Int32) (v_refusal : Int32) (v_latestFault : Int32) (v_faultPlace : Int32) (v_inn_minutes : Int32) (v_inn_things : Int32) (v_inn_dreams : Int32) (v_inn_sleepers : Int32) (v_inn_listeners : Int32) (v_inn_house_rooms : Int32) (v_inn_house_doors : Int32) (v_inn_house_cold : Nat → Int32) (v_inn_house_creak : Nat → Int32) : va_W := [(h, .inr (9, [.ref h_reader, .ref h_inn, .ref h_chosen, .ref h_night, .ref h_marks, .int v_marked, .ref h_notes, .ref h_casts, .int v_refusal, .int v_latestFault, .int v_faultPlace])), (h_inn, .inr (2, [.ref h_inn_house, .int v_inn_minutes, .int v_inn_things, .ref h_inn_thingIn, .ref h_inn_full, .int v_inn_dreams, .ref h_inn_states, .int v_inn_sleepers, .ref h_inn_bed, .ref h_inn_dreamOf, .int v_inn_listeners, .ref h_inn_listensIn])), (h_inn_house, .inr (1, [.int v_inn_house_rooms, .ref h_inn_house_creak, .ref h_inn_house_cold, .int v_inn_house_doors, .ref h_inn_house_one, .ref h_inn_house_other, .ref h_inn_house_how, .ref h_inn_house_falls, .ref h_inn_house_ways])), (h_inn_house_cold, aZ E 8 v_inn_house_cold), (h_inn_house_creak, aI E 8 v_inn_house_creak)]
def fX10_room (N : Nat) (p0 : Int32) (p1 : Int32) (v_inn_house_rooms : Int32) (v_inn_house_cold : Nat → Int32) (v_inn_house_creak : Nat → Int32) : Option (Int32 × Int32) := (fX10_isRoom N p0 v_inn_house_rooms).bind (un1 fun (r_2 : Int32) => if r_2 = 0 then ((fX10_refuse N 1).bind (un2 fun (r_18 : Int32) (v_refusal_18 : Int32) => some (r_18, v_refusal_18))) else ((fX10_isBelow N p1 2).bind (un1 fun (r_10 : Int32) => if r_10 = 0 then ((fX10_refuse N 1).bind (un2 fun (r_18 : Int32) (v_refusal_18 : Int32) => some (r_18, v_refusal_18))) else (if p1 = 0 then (gd p0 8 ((fX10_answer N (v_inn_house_creak p0.toNatClampNeg)).bind (un2 fun (r_57 : Int32) (v_refusal_57 : Int32) => some (r_57, v_refusal_57)))) else (gd p0 8 ((fX10_bit N (v_inn_house_cold p0.toNatClampNeg)).bind (un1 fun (r_54 : Int32) => (fX10_answer N r_54).bind (un2 fun (r_57 : Int32) (v_refusal_57 : Int32) => some (r_57, v_refusal_57)))))))))
set_option maxHeartbeats 4000000 in
set_option maxRecDepth 100000 in
theorem ctX10_room (l : Launch) (E : EN) (h h_reader h_inn h_chosen h_night h_marks h_notes h_casts h_inn_house h_inn_thingIn h_inn_full h_inn_states h_inn_bed h_inn_dreamOf h_inn_listensIn h_inn_house_creak h_inn_house_cold h_inn_house_one h_inn_house_other h_inn_house_how h_inn_house_falls h_inn_house_ways : Nat) (v_marked : Int32) (v_refusal : Int32) (v_latestFault : Int32) (v_faultPlace : Int32) (v_inn_minutes : Int32) (v_inn_things : Int32) (v_inn_dreams : Int32) (v_inn_sleepers : Int32) (v_inn_listeners : Int32) (v_inn_house_rooms : Int32) (v_inn_house_doors : Int32) (v_inn_house_cold : Nat → Int32) (v_inn_house_creak : Nat → Int32) (N : Nat) (p0 : Int32) (p1 : Int32) (z0 : Int32) (z1 : Int32) (hf : fX10_room N p0 p1 v_inn_house_rooms v_inn_house_cold v_inn_house_creak = some (z0, z1)) : CTi l E yX10_room cX10_room 3 .int 2 42 [.ref h, .int p0, .int p1] (wX10_room E h h_reader h_inn h_chosen h_night h_marks h_notes h_casts h_inn_house h_inn_thingIn h_inn_full h_inn_states h_inn_bed h_inn_dreamOf h_inn_listensIn h_inn_house_creak h_inn_house_cold h_inn_house_one h_inn_house_other h_inn_house_how h_inn_house_falls h_inn_house_ways v_marked v_refusal v_latestFault v_faultPlace v_inn_minutes v_inn_things v_inn_dreams v_inn_sleepers v_inn_listeners v_inn_house_rooms v_inn_house_doors v_inn_house_cold v_inn_house_creak) z0 (wX10_room E h h_reader h_inn h_chosen h_night h_marks h_notes h_casts h_inn_house h_inn_thingIn h_inn_full h_inn_states h_inn_bed h_inn_dreamOf h_inn_listensIn h_inn_house_creak h_inn_house_cold h_inn_house_one h_inn_house_other h_inn_house_how h_inn_house_falls h_inn_house_ways v_marked z1 v_latestFault v_faultPlace v_inn_minutes v_inn_things v_inn_dreams v_inn_sleepers v_inn_listeners v_inn_house_rooms v_inn_house_doors v_inn_house_cold v_inn_house_creak) := by
  intro sz
  refine ct_body (by decide) (Nat.le_of_ble_eq_true rfl) ?_
  intro p e s m args below meth c A ls hAe C hr hin hP hD hS hl
  have C : CX p s m args meth c cX10_room RX10 3 E A := C
  have hl : lv_has ls 3 [(0, .ref h), (1, .int p0), (2, .int p1)] := hl
  have hx := C.1
  have hb := C.2.1
  rw [hAe]
  clear hAe
  obtain ⟨Q, hQ⟩ : ∃ Q, Q = MQ below (Qi E A z0 (wX10_room E h h_reader h_inn h_chosen h_night h_marks h_notes h_casts h_inn_house h_inn_thingIn h_inn_full h_inn_states h_inn_bed h_inn_dreamOf h_inn_listensIn h_inn_house_creak h_inn_house_cold h_inn_house_one h_inn_house_other h_inn_house_how h_inn_house_falls h_inn_house_ways v_marked z1 v_latestFault v_faultPlace v_inn_minutes v_inn_things v_inn_dreams v_inn_sleepers v_inn_listeners v_inn_house_rooms v_inn_house_doors v_inn_house_cold v_inn_house_creak)) args s 0 0 A := ⟨_, rfl⟩
  rw [← hQ]
  unfold fX10_room at hf
  refine lv_aload_n hx hb dX10_room_0 rfl (lv_at hl 0 rfl) ?_
  refine lv_iload_n hx hb dX10_room_1 rfl (lv_at hl 1 rfl) ?_
  obtain ⟨r_2, hc_2, hf⟩ := bd1 hf
  refine r_callVi (ws' := (wX10_room E h h_reader h_inn h_chosen h_night h_marks h_notes h_casts h_inn_house h_inn_thingIn h_inn_full h_inn_states h_inn_bed h_inn_dreamOf h_inn_listensIn h_inn_house_creak h_inn_house_cold h_inn_house_one h_inn_house_other h_inn_house_how h_inn_house_falls h_inn_house_ways v_marked v_refusal v_latestFault v_faultPlace v_inn_minutes v_inn_things v_inn_dreams v_inn_sleepers v_inn_listeners v_inn_house_rooms v_inn_house_doors v_inn_house_cold v_inn_house_creak)) (As := [.int p0]) (rest := []) C (ctX10_isRoom l E h h_reader h_inn h_chosen h_night h_marks h_notes h_casts h_inn_house h_inn_thingIn h_inn_full h_inn_states h_inn_bed h_inn_dreamOf h_inn_listensIn h_inn_house_creak h_inn_house_cold h_inn_house_one h_inn_house_other h_inn_house_how h_inn_house_falls h_inn_house_ways v_marked v_refusal v_latestFault v_faultPlace v_inn_minutes v_inn_things v_inn_dreams v_inn_sleepers v_inn_listeners v_inn_house_rooms v_inn_house_doors N p0 r_2 hc_2) ml_X10_101 ⟨Nat.le_of_ble_eq_true rfl, Nat.le_of_ble_eq_true rfl⟩ hP hD hS 0 rfl rfl rfl [0, 1, 2] rfl rfl rfl rfl rfl hl.1 rfl (Nat.le_of_ble_eq_true rfl) ⟨Nat.zero_le _, Nat.zero_le _⟩ dX10_room_2 ?_
  clear hP hD hS; intro H locs hP hD hS
  refine lv_if_eq (tgt := 16) hx hb dX10_room_5 (by decide) (fun c_5 => ?_) (fun c_5 => ?_)
  · replace hf := it_t c_5 hf
    refine lv_aload_n hx hb dX10_room_16 rfl (lv_at hl 0 rfl) ?_
    refine lv_iconst (v := 1) hx hb dX10_room_17 (by decide) ?_
    obtain ⟨r_18, v_refusal_18, hc_18, hf⟩ := bd2 hf
    refine r_callVi (ws' := (wX10_room E h h_reader h_inn h_chosen h_night h_marks h_notes h_casts h_inn_house h_inn_thingIn h_inn_full h_inn_states h_inn_bed h_inn_dreamOf h_inn_listensIn h_inn_house_creak h_inn_house_cold h_inn_house_one h_inn_house_other h_inn_house_how h_inn_house_falls h_inn_house_ways v_marked v_refusal_18 v_latestFault v_faultPlace v_inn_minutes v_inn_things v_inn_dreams v_inn_sleepers v_inn_listeners v_inn_house_rooms v_inn_house_doors v_inn_house_cold v_inn_house_creak)) (As := [.int 1]) (rest := []) C (ctX10_refuse l E h h_reader h_inn h_chosen h_night h_marks h_notes h_casts v_marked v_refusal v_latestFault v_faultPlace N 1 r_18 v_refusal_18 hc_18) ml_X10_68 ⟨Nat.le_of_ble_eq_true rfl, Nat.le_of_ble_eq_true rfl⟩ hP hD hS 0 rfl rfl rfl [0] rfl rfl rfl rfl rfl hl.1 rfl (Nat.le_of_ble_eq_true rfl) ⟨Nat.zero_le _, Nat.zero_le _⟩ dX10_room_18 ?_
    clear hP hD hS; intro H locs hP hD hS
    cases hf
    rw [hQ]
    exact r_iret C hr hP hD hS rfl dX10_room_21
  · replace hf := it_f c_5 hf
    refine lv_iload_n hx hb dX10_room_8 rfl (lv_at hl 2 rfl) ?_
    refine lv_iconst (v := 2) hx hb dX10_room_9 (by decide) ?_
    obtain ⟨r_10, hc_10, hf⟩ := bd1 hf
    refine r_callSi (ws' := (wX10_room E h h_reader h_inn h_chosen h_night h_marks h_notes h_casts h_inn_house h_inn_thingIn h_inn_full h_inn_states h_inn_bed h_inn_dreamOf h_inn_listensIn h_inn_house_creak h_inn_house_cold h_inn_house_one h_inn_house_other h_inn_house_how h_inn_house_falls h_inn_house_ways v_marked v_refusal v_latestFault v_faultPlace v_inn_minutes v_inn_things v_inn_dreams v_inn_sleepers v_inn_listeners v_inn_house_rooms v_inn_house_doors v_inn_house_cold v_inn_house_creak)) (As := [.int p1, .int 2]) (rest := []) C (ctX10_isBelow l E N p1 2 r_10 hc_10) ml_X10_121 ⟨Nat.le_of_ble_eq_true rfl, Nat.le_of_ble_eq_true rfl⟩ hP hD hS [] rfl rfl rfl rfl rfl hl.1 rfl (Nat.le_of_ble_eq_true rfl) ⟨Nat.zero_le _, Nat.zero_le _⟩ dX10_room_10 ?_
    clear hP hD hS; intro H locs hP hD hS
    refine lv_if_ne (tgt := 22) hx hb dX10_room_13 (by decide) (fun c_13 => ?_) (fun c_13 => ?_)
    · replace hf := it_f c_13 hf
      refine lv_aload_n hx hb dX10_room_22 rfl (lv_at hl 0 rfl) ?_
      refine lv_iload_n hx hb dX10_room_23 rfl (lv_at hl 2 rfl) ?_
      refine lv_if_ne (tgt := 42) hx hb dX10_room_24 (by decide) (fun c_24 => ?_) (fun c_24 => ?_)
      · replace hf := it_f c_24 hf
        refine lv_aload_n hx hb dX10_room_42 rfl (lv_at hl 0 rfl) ?_
        refine r_get C hP 0 rfl fl_X10_19 rfl dX10_room_43 ?_
        refine r_get C hP 1 rfl fl_X10_105 rfl dX10_room_46 ?_
        refine r_get C hP 2 rfl fl_X10_128 rfl dX10_room_49 ?_
        refine lv_iload_n hx hb dX10_room_52 rfl (lv_at hl 1 rfl) ?_
        obtain ⟨hi_53, hf⟩ := gd_s hf
        refine r_zald C hP 3 rfl hi_53 dX10_room_53 ?_
        obtain ⟨r_54, hc_54, hf⟩ := bd1 hf
        refine r_callSi (ws' := (wX10_room E h h_reader h_inn h_chosen h_night h_marks h_notes h_casts h_inn_house h_inn_thingIn h_inn_full h_inn_states h_inn_bed h_inn_dreamOf h_inn_listensIn h_inn_house_creak h_inn_house_cold h_inn_house_one h_inn_house_other h_inn_house_how h_inn_house_falls h_inn_house_ways v_marked v_refusal v_latestFault v_faultPlace v_inn_minutes v_inn_things v_inn_dreams v_inn_sleepers v_inn_listeners v_inn_house_rooms v_inn_house_doors v_inn_house_cold v_inn_house_creak)) (As := [.int (v_inn_house_cold p0.toNatClampNeg)]) (rest := [.ref h]) C (ctX10_bit l E N (v_inn_house_cold p0.toNatClampNeg) r_54 hc_54) ml_X10_132 ⟨Nat.le_of_ble_eq_true rfl, Nat.le_of_ble_eq_true rfl⟩ hP hD hS [] rfl rfl rfl rfl rfl hl.1 rfl (Nat.le_of_ble_eq_true rfl) ⟨Nat.zero_le _, Nat.zero_le _⟩ dX10_room_54 ?_
        clear hP hD hS; intro H locs hP hD hS
        obtain ⟨r_57, v_refusal_57, hc_57, hf⟩ := bd2 hf
        refine r_callVi (ws' := (wX10_room E h h_reader h_inn h_chosen h_night h_marks h_notes h_casts h_inn_house h_inn_thingIn h_inn_full h_inn_states h_inn_bed h_inn_dreamOf h_inn_listensIn h_inn_house_creak h_inn_house_cold h_inn_house_one h_inn_house_other h_inn_house_how h_inn_house_falls h_inn_house_ways v_marked v_refusal_57 v_latestFault v_faultPlace v_inn_minutes v_inn_things v_inn_dreams v_inn_sleepers v_inn_listeners v_inn_house_rooms v_inn_house_doors v_inn_house_cold v_inn_house_creak)) (As := [.int r_54]) (rest := []) C (ctX10_answer l E h h_reader h_inn h_chosen h_night h_marks h_notes h_casts v_marked v_refusal v_latestFault v_faultPlace N r_54 r_57 v_refusal_57 hc_57) ml_X10_95 ⟨Nat.le_of_ble_eq_true rfl, Nat.le_of_ble_eq_true rfl⟩ hP hD hS 0 rfl rfl rfl [0] rfl rfl rfl rfl rfl hl.1 rfl (Nat.le_of_ble_eq_true rfl) ⟨Nat.zero_le _, Nat.zero_le _⟩ dX10_room_57 ?_
        clear hP hD hS; intro H locs hP hD hS
        cases hf
        rw [hQ]
        exact r_iret C hr hP hD hS rfl dX10_room_60
      · replace hf := it_t c_24 hf
        refine lv_aload_n hx hb dX10_room_27 rfl (lv_at hl 0 rfl) ?_
        refine r_get C hP 0 rfl fl_X10_19 rfl dX10_room_28 ?_
        refine r_get C hP 1 rfl fl_X10_105 rfl dX10_room_31 ?_
        refine r_get C hP 2 rfl fl_X10_125 rfl dX10_room_34 ?_
        refine lv_iload_n hx hb dX10_room_37 rfl (lv_at hl 1 rfl) ?_
        obtain ⟨hi_38, hf⟩ := gd_s hf
        refine r_iald C hP 4 rfl hi_38 dX10_room_38 ?_
        refine lv_goto (tgt := 57) hx hb dX10_room_39 (by decide) ?_
        obtain ⟨r_57, v_refusal_57, hc_57, hf⟩ := bd2 hf
        refine r_callVi (ws' := (wX10_room E h h_reader h_inn h_chosen h_night h_marks h_notes h_casts h_inn_house h_inn_thingIn h_inn_full h_inn_states h_inn_bed h_inn_dreamOf h_inn_listensIn h_inn_house_creak h_inn_house_cold h_inn_house_one h_inn_house_other h_inn_house_how h_inn_house_falls h_inn_house_ways v_marked v_refusal_57 v_latestFault v_faultPlace v_inn_minutes v_inn_things v_inn_dreams v_inn_sleepers v_inn_listeners v_inn_house_rooms v_inn_house_doors v_inn_house_cold v_inn_house_creak)) (As := [.int (v_inn_house_creak p0.toNatClampNeg)]) (rest := []) C (ctX10_answer l E h h_reader h_inn h_chosen h_night h_marks h_notes h_casts v_marked v_refusal v_latestFault v_faultPlace N (v_inn_house_creak p0.toNatClampNeg) r_57 v_refusal_57 hc_57) ml_X10_95 ⟨Nat.le_of_ble_eq_true rfl, Nat.le_of_ble_eq_true rfl⟩ hP hD hS 0 rfl rfl rfl [0] rfl rfl rfl rfl rfl hl.1 rfl (Nat.le_of_ble_eq_true rfl) ⟨Nat.zero_le _, Nat.zero_le _⟩ dX10_room_57 ?_
        clear hP hD hS; intro H locs hP hD hS
        cases hf
        rw [hQ]
        exact r_iret C hr hP hD hS rfl dX10_room_60
    · replace hf := it_t c_13 hf
      refine lv_aload_n hx hb dX10_room_16 rfl (lv_at hl 0 rfl) ?_
      refine lv_iconst (v := 1) hx hb dX10_room_17 (by decide) ?_
      obtain ⟨r_18, v_refusal_18, hc_18, hf⟩ := bd2 hf
      refine r_callVi (ws' := (wX10_room E h h_reader h_inn h_chosen h_night h_marks h_notes h_casts h_inn_house h_inn_thingIn h_inn_full h_inn_states h_inn_bed h_inn_dreamOf h_inn_listensIn h_inn_house_creak h_inn_house_cold h_inn_house_one h_inn_house_other h_inn_house_how h_inn_house_falls h_inn_house_ways v_marked v_refusal_18 v_latestFault v_faultPlace v_inn_minutes v_inn_things v_inn_dreams v_inn_sleepers v_inn_listeners v_inn_house_rooms v_inn_house_doors v_inn_house_cold v_inn_house_creak)) (As := [.int 1]) (rest := []) C (ctX10_refuse l E h h_reader h_inn h_chosen h_night h_marks h_notes h_casts v_marked v_refusal v_latestFault v_faultPlace N 1 r_18 v_refusal_18 hc_18) ml_X10_68 ⟨Nat.le_of_ble_eq_true rfl, Nat.le_of_ble_eq_true rfl⟩ hP hD hS 0 rfl rfl rfl [0] rfl rfl rfl rfl rfl hl.1 rfl (Nat.le_of_ble_eq_true rfl) ⟨Nat.zero_le _, Nat.zero_le _⟩ dX10_room_18 ?_
      clear hP hD hS; intro H locs hP hD hS
      cases hf
      rw [hQ]
      exact r_iret C hr hP hD hS rfl dX10_room_21
def wX10_door (E : EN) (h h_reader h_inn h_chosen h_night h_marks h_notes h_casts h_inn_house h_inn_thingIn h_inn_full h_inn_states h_inn_bed h_inn_dreamOf h_inn_listensIn h_inn_house_creak h_inn_house_cold h_inn_house_one h_inn_house_other h_inn_house_how h_inn_house_falls h_inn_house_ways : Nat) (v_marked : Int32) (v_refusal : Int32) (v_latestFault : Int32) (v_faultPlace : Int32) (v_inn_minutes : Int32) (v_inn_things : Int32) (v_inn_dreams : Int32) (v_inn_sleepers : Int32) (v_inn_listeners : Int32) (v_inn_house_rooms : Int32) (v_inn_house_doors : Int32) (v_inn_house_one : Nat → Int32) (v_inn_house_other : Nat → Int32) : va_W := [(h, .inr (9, [.ref h_reader, .ref h_inn, .ref h_chosen, .ref h_night, .ref h_marks, .int v_marked, .ref h_notes, .ref h_casts, .int v_refusal, .int v_latestFault, .int v_faultPlace])), (h_inn, .inr (2, [.ref h_inn_house, .int v_inn_minutes, .int v_inn_things, .ref h_inn_thingIn, .ref h_inn_full, .int v_inn_dreams, .ref h_inn_states, .int v_inn_sleepers, .ref h_inn_bed, .ref h_inn_dreamOf, .int v_inn_listeners, .ref h_inn_listensIn])), (h_inn_house, .inr (1, [.int v_inn_house_rooms, .ref h_inn_house_creak, .ref h_inn_house_cold, .int v_inn_house_doors, .ref h_inn_house_one, .ref h_inn_house_other, .ref h_inn_house_how, .ref h_inn_house_falls, .ref h_inn_house_ways])), (h_inn_house_one, aI E 10 v_inn_house_one), (h_inn_house_other, aI E 10 v_inn_house_other)]
def fX10_door (N : Nat) (p0 : Int32) (p1 : Int32) (v_inn_house_rooms : Int32) (v_inn_house_doors : Int32) (v_inn_house_one : Nat → Int32) (v_inn_house_other : Nat → Int32) : Option (Int32 × Int32) := (fX10_isRoom N p0 v_inn_house_rooms).bind (un1 fun (r_2 : Int32) => if r_2 = 0 then ((fX10_refuse N 1).bind (un2 fun (r_23 : Int32) (v_refusal_23 : Int32) => some (r_23, v_refusal_23))) else ((fX10_isRoom N p1 v_inn_house_rooms).bind (un1 fun (r_10 : Int32) => if r_10 = 0 then ((fX10_refuse N 1).bind (un2 fun (r_23 : Int32) (v_refusal_23 : Int32) => some (r_23, v_refusal_23))) else (if p0 = p1 then ((fX10_refuse N 1).bind (un2 fun (r_23 : Int32) (v_refusal_23 : Int32) => some (r_23, v_refusal_23))) else ((fX1_doorBetween N p0 p1 v_inn_house_doors v_inn_house_one v_inn_house_other).bind (un1 fun (r_37 : Int32) => (fX10_answer N r_37).bind (un2 fun (r_40 : Int32) (v_refusal_40 : Int32) => some (r_40, v_refusal_40))))))))
set_option maxHeartbeats 4000000 in
set_option maxRecDepth 100000 in
theorem ctX10_door (l : Launch) (E : EN) (h h_reader h_inn h_chosen h_night h_marks h_notes h_casts h_inn_house h_inn_thingIn h_inn_full h_inn_states h_inn_bed h_inn_dreamOf h_inn_listensIn h_inn_house_creak h_inn_house_cold h_inn_house_one h_inn_house_other h_inn_house_how h_inn_house_falls h_inn_house_ways : Nat) (v_marked : Int32) (v_refusal : Int32) (v_latestFault : Int32) (v_faultPlace : Int32) (v_inn_minutes : Int32) (v_inn_things : Int32) (v_inn_dreams : Int32) (v_inn_sleepers : Int32) (v_inn_listeners : Int32) (v_inn_house_rooms : Int32) (v_inn_house_doors : Int32) (v_inn_house_one : Nat → Int32) (v_inn_house_other : Nat → Int32) (N : Nat) (p0 : Int32) (p1 : Int32) (z0 : Int32) (z1 : Int32) (hf : fX10_door N p0 p1 v_inn_house_rooms v_inn_house_doors v_inn_house_one v_inn_house_other = some (z0, z1)) : CTi l E yX10_door cX10_door 3 .int 2 42 [.ref h, .int p0, .int p1] (wX10_door E h h_reader h_inn h_chosen h_night h_marks h_notes h_casts h_inn_house h_inn_thingIn h_inn_full h_inn_states h_inn_bed h_inn_dreamOf h_inn_listensIn h_inn_house_creak h_inn_house_cold h_inn_house_one h_inn_house_other h_inn_house_how h_inn_house_falls h_inn_house_ways v_marked v_refusal v_latestFault v_faultPlace v_inn_minutes v_inn_things v_inn_dreams v_inn_sleepers v_inn_listeners v_inn_house_rooms v_inn_house_doors v_inn_house_one v_inn_house_other) z0 (wX10_door E h h_reader h_inn h_chosen h_night h_marks h_notes h_casts h_inn_house h_inn_thingIn h_inn_full h_inn_states h_inn_bed h_inn_dreamOf h_inn_listensIn h_inn_house_creak h_inn_house_cold h_inn_house_one h_inn_house_other h_inn_house_how h_inn_house_falls h_inn_house_ways v_marked z1 v_latestFault v_faultPlace v_inn_minutes v_inn_things v_inn_dreams v_inn_sleepers v_inn_listeners v_inn_house_rooms v_inn_house_doors v_inn_house_one v_inn_house_other) := by
  intro sz
  refine ct_body (by decide) (Nat.le_of_ble_eq_true rfl) ?_
  intro p e s m args below meth c A ls hAe C hr hin hP hD hS hl
  have C : CX p s m args meth c cX10_door RX10 3 E A := C
  have hl : lv_has ls 3 [(0, .ref h), (1, .int p0), (2, .int p1)] := hl
  have hx := C.1
  have hb := C.2.1
  rw [hAe]
  clear hAe
  obtain ⟨Q, hQ⟩ : ∃ Q, Q = MQ below (Qi E A z0 (wX10_door E h h_reader h_inn h_chosen h_night h_marks h_notes h_casts h_inn_house h_inn_thingIn h_inn_full h_inn_states h_inn_bed h_inn_dreamOf h_inn_listensIn h_inn_house_creak h_inn_house_cold h_inn_house_one h_inn_house_other h_inn_house_how h_inn_house_falls h_inn_house_ways v_marked z1 v_latestFault v_faultPlace v_inn_minutes v_inn_things v_inn_dreams v_inn_sleepers v_inn_listeners v_inn_house_rooms v_inn_house_doors v_inn_house_one v_inn_house_other)) args s 0 0 A := ⟨_, rfl⟩
  rw [← hQ]
  unfold fX10_door at hf
  refine lv_aload_n hx hb dX10_door_0 rfl (lv_at hl 0 rfl) ?_
  refine lv_iload_n hx hb dX10_door_1 rfl (lv_at hl 1 rfl) ?_
  obtain ⟨r_2, hc_2, hf⟩ := bd1 hf
  refine r_callVi (ws' := (wX10_door E h h_reader h_inn h_chosen h_night h_marks h_notes h_casts h_inn_house h_inn_thingIn h_inn_full h_inn_states h_inn_bed h_inn_dreamOf h_inn_listensIn h_inn_house_creak h_inn_house_cold h_inn_house_one h_inn_house_other h_inn_house_how h_inn_house_falls h_inn_house_ways v_marked v_refusal v_latestFault v_faultPlace v_inn_minutes v_inn_things v_inn_dreams v_inn_sleepers v_inn_listeners v_inn_house_rooms v_inn_house_doors v_inn_house_one v_inn_house_other)) (As := [.int p0]) (rest := []) C (ctX10_isRoom l E h h_reader h_inn h_chosen h_night h_marks h_notes h_casts h_inn_house h_inn_thingIn h_inn_full h_inn_states h_inn_bed h_inn_dreamOf h_inn_listensIn h_inn_house_creak h_inn_house_cold h_inn_house_one h_inn_house_other h_inn_house_how h_inn_house_falls h_inn_house_ways v_marked v_refusal v_latestFault v_faultPlace v_inn_minutes v_inn_things v_inn_dreams v_inn_sleepers v_inn_listeners v_inn_house_rooms v_inn_house_doors N p0 r_2 hc_2) ml_X10_101 ⟨Nat.le_of_ble_eq_true rfl, Nat.le_of_ble_eq_true rfl⟩ hP hD hS 0 rfl rfl rfl [0, 1, 2] rfl rfl rfl rfl rfl hl.1 rfl (Nat.le_of_ble_eq_true rfl) ⟨Nat.zero_le _, Nat.zero_le _⟩ dX10_door_2 ?_
  clear hP hD hS; intro H locs hP hD hS
  refine lv_if_eq (tgt := 21) hx hb dX10_door_5 (by decide) (fun c_5 => ?_) (fun c_5 => ?_)
  · replace hf := it_t c_5 hf
    refine lv_aload_n hx hb dX10_door_21 rfl (lv_at hl 0 rfl) ?_
    refine lv_iconst (v := 1) hx hb dX10_door_22 (by decide) ?_
    obtain ⟨r_23, v_refusal_23, hc_23, hf⟩ := bd2 hf
    refine r_callVi (ws' := (wX10_door E h h_reader h_inn h_chosen h_night h_marks h_notes h_casts h_inn_house h_inn_thingIn h_inn_full h_inn_states h_inn_bed h_inn_dreamOf h_inn_listensIn h_inn_house_creak h_inn_house_cold h_inn_house_one h_inn_house_other h_inn_house_how h_inn_house_falls h_inn_house_ways v_marked v_refusal_23 v_latestFault v_faultPlace v_inn_minutes v_inn_things v_inn_dreams v_inn_sleepers v_inn_listeners v_inn_house_rooms v_inn_house_doors v_inn_house_one v_inn_house_other)) (As := [.int 1]) (rest := []) C (ctX10_refuse l E h h_reader h_inn h_chosen h_night h_marks h_notes h_casts v_marked v_refusal v_latestFault v_faultPlace N 1 r_23 v_refusal_23 hc_23) ml_X10_68 ⟨Nat.le_of_ble_eq_true rfl, Nat.le_of_ble_eq_true rfl⟩ hP hD hS 0 rfl rfl rfl [0] rfl rfl rfl rfl rfl hl.1 rfl (Nat.le_of_ble_eq_true rfl) ⟨Nat.zero_le _, Nat.zero_le _⟩ dX10_door_23 ?_
    clear hP hD hS; intro H locs hP hD hS
    cases hf
    rw [hQ]
    exact r_iret C hr hP hD hS rfl dX10_door_26
  · replace hf := it_f c_5 hf
    refine lv_aload_n hx hb dX10_door_8 rfl (lv_at hl 0 rfl) ?_
    refine lv_iload_n hx hb dX10_door_9 rfl (lv_at hl 2 rfl) ?_
    obtain ⟨r_10, hc_10, hf⟩ := bd1 hf
    refine r_callVi (ws' := (wX10_door E h h_reader h_inn h_chosen h_night h_marks h_notes h_casts h_inn_house h_inn_thingIn h_inn_full h_inn_states h_inn_bed h_inn_dreamOf h_inn_listensIn h_inn_house_creak h_inn_house_cold h_inn_house_one h_inn_house_other h_inn_house_how h_inn_house_falls h_inn_house_ways v_marked v_refusal v_latestFault v_faultPlace v_inn_minutes v_inn_things v_inn_dreams v_inn_sleepers v_inn_listeners v_inn_house_rooms v_inn_house_doors v_inn_house_one v_inn_house_other)) (As := [.int p1]) (rest := []) C (ctX10_isRoom l E h h_reader h_inn h_chosen h_night h_marks h_notes h_casts h_inn_house h_inn_thingIn h_inn_full h_inn_states h_inn_bed h_inn_dreamOf h_inn_listensIn h_inn_house_creak h_inn_house_cold h_inn_house_one h_inn_house_other h_inn_house_how h_inn_house_falls h_inn_house_ways v_marked v_refusal v_latestFault v_faultPlace v_inn_minutes v_inn_things v_inn_dreams v_inn_sleepers v_inn_listeners v_inn_house_rooms v_inn_house_doors N p1 r_10 hc_10) ml_X10_101 ⟨Nat.le_of_ble_eq_true rfl, Nat.le_of_ble_eq_true rfl⟩ hP hD hS 0 rfl rfl rfl [0, 1, 2] rfl rfl rfl rfl rfl hl.1 rfl (Nat.le_of_ble_eq_true rfl) ⟨Nat.zero_le _, Nat.zero_le _⟩ dX10_door_10 ?_
    clear hP hD hS; intro H locs hP hD hS
    refine lv_if_eq (tgt := 21) hx hb dX10_door_13 (by decide) (fun c_13 => ?_) (fun c_13 => ?_)
    · replace hf := it_t c_13 hf
      refine lv_aload_n hx hb dX10_door_21 rfl (lv_at hl 0 rfl) ?_
      refine lv_iconst (v := 1) hx hb dX10_door_22 (by decide) ?_
      obtain ⟨r_23, v_refusal_23, hc_23, hf⟩ := bd2 hf
      refine r_callVi (ws' := (wX10_door E h h_reader h_inn h_chosen h_night h_marks h_notes h_casts h_inn_house h_inn_thingIn h_inn_full h_inn_states h_inn_bed h_inn_dreamOf h_inn_listensIn h_inn_house_creak h_inn_house_cold h_inn_house_one h_inn_house_other h_inn_house_how h_inn_house_falls h_inn_house_ways v_marked v_refusal_23 v_latestFault v_faultPlace v_inn_minutes v_inn_things v_inn_dreams v_inn_sleepers v_inn_listeners v_inn_house_rooms v_inn_house_doors v_inn_house_one v_inn_house_other)) (As := [.int 1]) (rest := []) C (ctX10_refuse l E h h_reader h_inn h_chosen h_night h_marks h_notes h_casts v_marked v_refusal v_latestFault v_faultPlace N 1 r_23 v_refusal_23 hc_23) ml_X10_68 ⟨Nat.le_of_ble_eq_true rfl, Nat.le_of_ble_eq_true rfl⟩ hP hD hS 0 rfl rfl rfl [0] rfl rfl rfl rfl rfl hl.1 rfl (Nat.le_of_ble_eq_true rfl) ⟨Nat.zero_le _, Nat.zero_le _⟩ dX10_door_23 ?_
      clear hP hD hS; intro H locs hP hD hS
      cases hf
      rw [hQ]
      exact r_iret C hr hP hD hS rfl dX10_door_26
    · replace hf := it_f c_13 hf
      refine lv_iload_n hx hb dX10_door_16 rfl (lv_at hl 1 rfl) ?_
      refine lv_iload_n hx hb dX10_door_17 rfl (lv_at hl 2 rfl) ?_
      refine lv_icmp_ne (tgt := 27) hx hb dX10_door_18 (by decide) (fun c_18 => ?_) (fun c_18 => ?_)
      · replace hf := it_f c_18 hf
        refine lv_aload_n hx hb dX10_door_27 rfl (lv_at hl 0 rfl) ?_
        refine lv_aload_n hx hb dX10_door_28 rfl (lv_at hl 0 rfl) ?_
        refine r_get C hP 0 rfl fl_X10_19 rfl dX10_door_29 ?_
        refine r_get C hP 1 rfl fl_X10_105 rfl dX10_door_32 ?_
        refine lv_iload_n hx hb dX10_door_35 rfl (lv_at hl 1 rfl) ?_
        refine lv_iload_n hx hb dX10_door_36 rfl (lv_at hl 2 rfl) ?_
        obtain ⟨r_37, hc_37, hf⟩ := bd1 hf
        refine r_callVi (ws' := (wX10_door E h h_reader h_inn h_chosen h_night h_marks h_notes h_casts h_inn_house h_inn_thingIn h_inn_full h_inn_states h_inn_bed h_inn_dreamOf h_inn_listensIn h_inn_house_creak h_inn_house_cold h_inn_house_one h_inn_house_other h_inn_house_how h_inn_house_falls h_inn_house_ways v_marked v_refusal v_latestFault v_faultPlace v_inn_minutes v_inn_things v_inn_dreams v_inn_sleepers v_inn_listeners v_inn_house_rooms v_inn_house_doors v_inn_house_one v_inn_house_other)) (As := [.int p0, .int p1]) (rest := [.ref h]) C (ctX1_doorBetween l E h_inn_house h_inn_house_creak h_inn_house_cold h_inn_house_one h_inn_house_other h_inn_house_how h_inn_house_falls h_inn_house_ways v_inn_house_rooms v_inn_house_doors v_inn_house_one v_inn_house_other N p0 p1 r_37 hc_37) ml_X10_136 ⟨Nat.le_of_ble_eq_true rfl, Nat.le_of_ble_eq_true rfl⟩ hP hD hS 2 rfl rfl rfl [2, 3, 4] rfl rfl rfl rfl rfl hl.1 rfl (Nat.le_of_ble_eq_true rfl) ⟨Nat.zero_le _, Nat.zero_le _⟩ dX10_door_37 ?_
        clear hP hD hS; intro H locs hP hD hS
        obtain ⟨r_40, v_refusal_40, hc_40, hf⟩ := bd2 hf
        refine r_callVi (ws' := (wX10_door E h h_reader h_inn h_chosen h_night h_marks h_notes h_casts h_inn_house h_inn_thingIn h_inn_full h_inn_states h_inn_bed h_inn_dreamOf h_inn_listensIn h_inn_house_creak h_inn_house_cold h_inn_house_one h_inn_house_other h_inn_house_how h_inn_house_falls h_inn_house_ways v_marked v_refusal_40 v_latestFault v_faultPlace v_inn_minutes v_inn_things v_inn_dreams v_inn_sleepers v_inn_listeners v_inn_house_rooms v_inn_house_doors v_inn_house_one v_inn_house_other)) (As := [.int r_37]) (rest := []) C (ctX10_answer l E h h_reader h_inn h_chosen h_night h_marks h_notes h_casts v_marked v_refusal v_latestFault v_faultPlace N r_37 r_40 v_refusal_40 hc_40) ml_X10_95 ⟨Nat.le_of_ble_eq_true rfl, Nat.le_of_ble_eq_true rfl⟩ hP hD hS 0 rfl rfl rfl [0] rfl rfl rfl rfl rfl hl.1 rfl (Nat.le_of_ble_eq_true rfl) ⟨Nat.zero_le _, Nat.zero_le _⟩ dX10_door_40 ?_
        clear hP hD hS; intro H locs hP hD hS
        cases hf
        rw [hQ]
        exact r_iret C hr hP hD hS rfl dX10_door_43
      · replace hf := it_t c_18 hf
        refine lv_aload_n hx hb dX10_door_21 rfl (lv_at hl 0 rfl) ?_
        refine lv_iconst (v := 1) hx hb dX10_door_22 (by decide) ?_
        obtain ⟨r_23, v_refusal_23, hc_23, hf⟩ := bd2 hf
        refine r_callVi (ws' := (wX10_door E h h_reader h_inn h_chosen h_night h_marks h_notes h_casts h_inn_house h_inn_thingIn h_inn_full h_inn_states h_inn_bed h_inn_dreamOf h_inn_listensIn h_inn_house_creak h_inn_house_cold h_inn_house_one h_inn_house_other h_inn_house_how h_inn_house_falls h_inn_house_ways v_marked v_refusal_23 v_latestFault v_faultPlace v_inn_minutes v_inn_things v_inn_dreams v_inn_sleepers v_inn_listeners v_inn_house_rooms v_inn_house_doors v_inn_house_one v_inn_house_other)) (As := [.int 1]) (rest := []) C (ctX10_refuse l E h h_reader h_inn h_chosen h_night h_marks h_notes h_casts v_marked v_refusal v_latestFault v_faultPlace N 1 r_23 v_refusal_23 hc_23) ml_X10_68 ⟨Nat.le_of_ble_eq_true rfl, Nat.le_of_ble_eq_true rfl⟩ hP hD hS 0 rfl rfl rfl [0] rfl rfl rfl rfl rfl hl.1 rfl (Nat.le_of_ble_eq_true rfl) ⟨Nat.zero_le _, Nat.zero_le _⟩ dX10_door_23 ?_
        clear hP hD hS; intro H locs hP hD hS
        cases hf
        rw [hQ]
        exact r_iret C hr hP hD hS rfl dX10_door_26
def wX10_dream (E : EN) (h h_reader h_inn h_chosen h_night h_marks h_notes h_casts h_inn_house h_inn_thingIn h_inn_full h_inn_states h_inn_bed h_inn_dreamOf h_inn_listensIn : Nat) (v_marked : Int32) (v_refusal : Int32) (v_latestFault : Int32) (v_faultPlace : Int32) (v_inn_minutes : Int32) (v_inn_things : Int32) (v_inn_dreams : Int32) (v_inn_sleepers : Int32) (v_inn_listeners : Int32) (v_inn_states : Nat → Int32) : va_W := [(h, .inr (9, [.ref h_reader, .ref h_inn, .ref h_chosen, .ref h_night, .ref h_marks, .int v_marked, .ref h_notes, .ref h_casts, .int v_refusal, .int v_latestFault, .int v_faultPlace])), (h_inn, .inr (2, [.ref h_inn_house, .int v_inn_minutes, .int v_inn_things, .ref h_inn_thingIn, .ref h_inn_full, .int v_inn_dreams, .ref h_inn_states, .int v_inn_sleepers, .ref h_inn_bed, .ref h_inn_dreamOf, .int v_inn_listeners, .ref h_inn_listensIn])), (h_inn_states, aI E 64 v_inn_states)]
def fX10_dream (N : Nat) (p0 : Int32) (p1 : Int32) (p2 : Int32) (v_inn_dreams : Int32) (v_inn_states : Nat → Int32) : Option (Int32 × Int32) := (fX10_isBelow N p0 v_inn_dreams).bind (un1 fun (r_8 : Int32) => if r_8 = 0 then ((fX10_refuse N 1).bind (un2 fun (r_32 : Int32) (v_refusal_32 : Int32) => some (r_32, v_refusal_32))) else ((fX10_isBelow N p1 4).bind (un1 fun (r_16 : Int32) => if r_16 = 0 then ((fX10_refuse N 1).bind (un2 fun (r_32 : Int32) (v_refusal_32 : Int32) => some (r_32, v_refusal_32))) else ((fX10_isBelow N p2 4).bind (un1 fun (r_24 : Int32) => if r_24 = 0 then ((fX10_refuse N 1).bind (un2 fun (r_32 : Int32) (v_refusal_32 : Int32) => some (r_32, v_refusal_32))) else ((fX2_isTold N p0 p1 v_inn_states).bind (un1 fun (r_42 : Int32) => if r_42 = 0 then ((fX10_refuse N 6).bind (un2 fun (r_51 : Int32) (v_refusal_51 : Int32) => some (r_51, v_refusal_51))) else ((fX2_ofState N p0 p1 p2 v_inn_states).bind (un1 fun (r_63 : Int32) => (fX10_answer N r_63).bind (un2 fun (r_66 : Int32) (v_refusal_66 : Int32) => some (r_66, v_refusal_66)))))))))))
set_option maxHeartbeats 4000000 in
set_option maxRecDepth 100000 in
theorem ctX10_dream (l : Launch) (E : EN) (h h_reader h_inn h_chosen h_night h_marks h_notes h_casts h_inn_house h_inn_thingIn h_inn_full h_inn_states h_inn_bed h_inn_dreamOf h_inn_listensIn : Nat) (v_marked : Int32) (v_refusal : Int32) (v_latestFault : Int32) (v_faultPlace : Int32) (v_inn_minutes : Int32) (v_inn_things : Int32) (v_inn_dreams : Int32) (v_inn_sleepers : Int32) (v_inn_listeners : Int32) (v_inn_states : Nat → Int32) (N : Nat) (p0 : Int32) (p1 : Int32) (p2 : Int32) (z0 : Int32) (z1 : Int32) (hf : fX10_dream N p0 p1 p2 v_inn_dreams v_inn_states = some (z0, z1)) : CTi l E yX10_dream cX10_dream 4 .int 2 45 [.ref h, .int p0, .int p1, .int p2] (wX10_dream E h h_reader h_inn h_chosen h_night h_marks h_notes h_casts h_inn_house h_inn_thingIn h_inn_full h_inn_states h_inn_bed h_inn_dreamOf h_inn_listensIn v_marked v_refusal v_latestFault v_faultPlace v_inn_minutes v_inn_things v_inn_dreams v_inn_sleepers v_inn_listeners v_inn_states) z0 (wX10_dream E h h_reader h_inn h_chosen h_night h_marks h_notes h_casts h_inn_house h_inn_thingIn h_inn_full h_inn_states h_inn_bed h_inn_dreamOf h_inn_listensIn v_marked z1 v_latestFault v_faultPlace v_inn_minutes v_inn_things v_inn_dreams v_inn_sleepers v_inn_listeners v_inn_states) := by
  intro sz
  refine ct_body (by decide) (Nat.le_of_ble_eq_true rfl) ?_
  intro p e s m args below meth c A ls hAe C hr hin hP hD hS hl
  have C : CX p s m args meth c cX10_dream RX10 4 E A := C
  have hl : lv_has ls 4 [(0, .ref h), (1, .int p0), (2, .int p1), (3, .int p2)] := hl
  have hx := C.1
  have hb := C.2.1
  rw [hAe]
  clear hAe
  obtain ⟨Q, hQ⟩ : ∃ Q, Q = MQ below (Qi E A z0 (wX10_dream E h h_reader h_inn h_chosen h_night h_marks h_notes h_casts h_inn_house h_inn_thingIn h_inn_full h_inn_states h_inn_bed h_inn_dreamOf h_inn_listensIn v_marked z1 v_latestFault v_faultPlace v_inn_minutes v_inn_things v_inn_dreams v_inn_sleepers v_inn_listeners v_inn_states)) args s 0 0 A := ⟨_, rfl⟩
  rw [← hQ]
  unfold fX10_dream at hf
  refine lv_iload_n hx hb dX10_dream_0 rfl (lv_at hl 1 rfl) ?_
  refine lv_aload_n hx hb dX10_dream_1 rfl (lv_at hl 0 rfl) ?_
  refine r_get C hP 0 rfl fl_X10_19 rfl dX10_dream_2 ?_
  refine r_get C hP 1 rfl fl_X10_139 rfl dX10_dream_5 ?_
  obtain ⟨r_8, hc_8, hf⟩ := bd1 hf
  refine r_callSi (ws' := (wX10_dream E h h_reader h_inn h_chosen h_night h_marks h_notes h_casts h_inn_house h_inn_thingIn h_inn_full h_inn_states h_inn_bed h_inn_dreamOf h_inn_listensIn v_marked v_refusal v_latestFault v_faultPlace v_inn_minutes v_inn_things v_inn_dreams v_inn_sleepers v_inn_listeners v_inn_states)) (As := [.int p0, .int v_inn_dreams]) (rest := []) C (ctX10_isBelow l E N p0 v_inn_dreams r_8 hc_8) ml_X10_121 ⟨Nat.le_of_ble_eq_true rfl, Nat.le_of_ble_eq_true rfl⟩ hP hD hS [] rfl rfl rfl rfl rfl hl.1 rfl (Nat.le_of_ble_eq_true rfl) ⟨Nat.zero_le _, Nat.zero_le _⟩ dX10_dream_8 ?_
  clear hP hD hS; intro H locs hP hD hS
  refine lv_if_eq (tgt := 30) hx hb dX10_dream_11 (by decide) (fun c_11 => ?_) (fun c_11 => ?_)
  · replace hf := it_t c_11 hf
    refine lv_aload_n hx hb dX10_dream_30 rfl (lv_at hl 0 rfl) ?_
    refine lv_iconst (v := 1) hx hb dX10_dream_31 (by decide) ?_
    obtain ⟨r_32, v_refusal_32, hc_32, hf⟩ := bd2 hf
    refine r_callVi (ws' := (wX10_dream E h h_reader h_inn h_chosen h_night h_marks h_notes h_casts h_inn_house h_inn_thingIn h_inn_full h_inn_states h_inn_bed h_inn_dreamOf h_inn_listensIn v_marked v_refusal_32 v_latestFault v_faultPlace v_inn_minutes v_inn_things v_inn_dreams v_inn_sleepers v_inn_listeners v_inn_states)) (As := [.int 1]) (rest := []) C (ctX10_refuse l E h h_reader h_inn h_chosen h_night h_marks h_notes h_casts v_marked v_refusal v_latestFault v_faultPlace N 1 r_32 v_refusal_32 hc_32) ml_X10_68 ⟨Nat.le_of_ble_eq_true rfl, Nat.le_of_ble_eq_true rfl⟩ hP hD hS 0 rfl rfl rfl [0] rfl rfl rfl rfl rfl hl.1 rfl (Nat.le_of_ble_eq_true rfl) ⟨Nat.zero_le _, Nat.zero_le _⟩ dX10_dream_32 ?_
    clear hP hD hS; intro H locs hP hD hS
    cases hf
    rw [hQ]
    exact r_iret C hr hP hD hS rfl dX10_dream_35
  · replace hf := it_f c_11 hf
    refine lv_iload_n hx hb dX10_dream_14 rfl (lv_at hl 2 rfl) ?_
    refine lv_iconst (v := 4) hx hb dX10_dream_15 (by decide) ?_
    obtain ⟨r_16, hc_16, hf⟩ := bd1 hf
    refine r_callSi (ws' := (wX10_dream E h h_reader h_inn h_chosen h_night h_marks h_notes h_casts h_inn_house h_inn_thingIn h_inn_full h_inn_states h_inn_bed h_inn_dreamOf h_inn_listensIn v_marked v_refusal v_latestFault v_faultPlace v_inn_minutes v_inn_things v_inn_dreams v_inn_sleepers v_inn_listeners v_inn_states)) (As := [.int p1, .int 4]) (rest := []) C (ctX10_isBelow l E N p1 4 r_16 hc_16) ml_X10_121 ⟨Nat.le_of_ble_eq_true rfl, Nat.le_of_ble_eq_true rfl⟩ hP hD hS [] rfl rfl rfl rfl rfl hl.1 rfl (Nat.le_of_ble_eq_true rfl) ⟨Nat.zero_le _, Nat.zero_le _⟩ dX10_dream_16 ?_
    clear hP hD hS; intro H locs hP hD hS
    refine lv_if_eq (tgt := 30) hx hb dX10_dream_19 (by decide) (fun c_19 => ?_) (fun c_19 => ?_)
    · replace hf := it_t c_19 hf
      refine lv_aload_n hx hb dX10_dream_30 rfl (lv_at hl 0 rfl) ?_
      refine lv_iconst (v := 1) hx hb dX10_dream_31 (by decide) ?_
      obtain ⟨r_32, v_refusal_32, hc_32, hf⟩ := bd2 hf
      refine r_callVi (ws' := (wX10_dream E h h_reader h_inn h_chosen h_night h_marks h_notes h_casts h_inn_house h_inn_thingIn h_inn_full h_inn_states h_inn_bed h_inn_dreamOf h_inn_listensIn v_marked v_refusal_32 v_latestFault v_faultPlace v_inn_minutes v_inn_things v_inn_dreams v_inn_sleepers v_inn_listeners v_inn_states)) (As := [.int 1]) (rest := []) C (ctX10_refuse l E h h_reader h_inn h_chosen h_night h_marks h_notes h_casts v_marked v_refusal v_latestFault v_faultPlace N 1 r_32 v_refusal_32 hc_32) ml_X10_68 ⟨Nat.le_of_ble_eq_true rfl, Nat.le_of_ble_eq_true rfl⟩ hP hD hS 0 rfl rfl rfl [0] rfl rfl rfl rfl rfl hl.1 rfl (Nat.le_of_ble_eq_true rfl) ⟨Nat.zero_le _, Nat.zero_le _⟩ dX10_dream_32 ?_
      clear hP hD hS; intro H locs hP hD hS
      cases hf
      rw [hQ]
      exact r_iret C hr hP hD hS rfl dX10_dream_35
    · replace hf := it_f c_19 hf
      refine lv_iload_n hx hb dX10_dream_22 rfl (lv_at hl 3 rfl) ?_
      refine lv_iconst (v := 4) hx hb dX10_dream_23 (by decide) ?_
      obtain ⟨r_24, hc_24, hf⟩ := bd1 hf
      refine r_callSi (ws' := (wX10_dream E h h_reader h_inn h_chosen h_night h_marks h_notes h_casts h_inn_house h_inn_thingIn h_inn_full h_inn_states h_inn_bed h_inn_dreamOf h_inn_listensIn v_marked v_refusal v_latestFault v_faultPlace v_inn_minutes v_inn_things v_inn_dreams v_inn_sleepers v_inn_listeners v_inn_states)) (As := [.int p2, .int 4]) (rest := []) C (ctX10_isBelow l E N p2 4 r_24 hc_24) ml_X10_121 ⟨Nat.le_of_ble_eq_true rfl, Nat.le_of_ble_eq_true rfl⟩ hP hD hS [] rfl rfl rfl rfl rfl hl.1 rfl (Nat.le_of_ble_eq_true rfl) ⟨Nat.zero_le _, Nat.zero_le _⟩ dX10_dream_24 ?_
      clear hP hD hS; intro H locs hP hD hS
      refine lv_if_ne (tgt := 36) hx hb dX10_dream_27 (by decide) (fun c_27 => ?_) (fun c_27 => ?_)
      · replace hf := it_f c_27 hf
        refine lv_aload_n hx hb dX10_dream_36 rfl (lv_at hl 0 rfl) ?_
        refine r_get C hP 0 rfl fl_X10_19 rfl dX10_dream_37 ?_
        refine lv_iload_n hx hb dX10_dream_40 rfl (lv_at hl 1 rfl) ?_
        refine lv_iload_n hx hb dX10_dream_41 rfl (lv_at hl 2 rfl) ?_
        obtain ⟨r_42, hc_42, hf⟩ := bd1 hf
        refine r_callVi (ws' := (wX10_dream E h h_reader h_inn h_chosen h_night h_marks h_notes h_casts h_inn_house h_inn_thingIn h_inn_full h_inn_states h_inn_bed h_inn_dreamOf h_inn_listensIn v_marked v_refusal v_latestFault v_faultPlace v_inn_minutes v_inn_things v_inn_dreams v_inn_sleepers v_inn_listeners v_inn_states)) (As := [.int p0, .int p1]) (rest := []) C (ctX2_isTold l E h_inn h_inn_house h_inn_thingIn h_inn_full h_inn_states h_inn_bed h_inn_dreamOf h_inn_listensIn v_inn_minutes v_inn_things v_inn_dreams v_inn_sleepers v_inn_listeners v_inn_states N p0 p1 r_42 hc_42) ml_X10_142 ⟨Nat.le_of_ble_eq_true rfl, Nat.le_of_ble_eq_true rfl⟩ hP hD hS 1 rfl rfl rfl [1, 2] rfl rfl rfl rfl rfl hl.1 rfl (Nat.le_of_ble_eq_true rfl) ⟨Nat.zero_le _, Nat.zero_le _⟩ dX10_dream_42 ?_
        clear hP hD hS; intro H locs hP hD hS
        refine lv_if_ne (tgt := 55) hx hb dX10_dream_45 (by decide) (fun c_45 => ?_) (fun c_45 => ?_)
        · replace hf := it_f c_45 hf
          refine lv_aload_n hx hb dX10_dream_55 rfl (lv_at hl 0 rfl) ?_
          refine lv_aload_n hx hb dX10_dream_56 rfl (lv_at hl 0 rfl) ?_
          refine r_get C hP 0 rfl fl_X10_19 rfl dX10_dream_57 ?_
          refine lv_iload_n hx hb dX10_dream_60 rfl (lv_at hl 1 rfl) ?_
          refine lv_iload_n hx hb dX10_dream_61 rfl (lv_at hl 2 rfl) ?_
          refine lv_iload_n hx hb dX10_dream_62 rfl (lv_at hl 3 rfl) ?_
          obtain ⟨r_63, hc_63, hf⟩ := bd1 hf
          refine r_callVi (ws' := (wX10_dream E h h_reader h_inn h_chosen h_night h_marks h_notes h_casts h_inn_house h_inn_thingIn h_inn_full h_inn_states h_inn_bed h_inn_dreamOf h_inn_listensIn v_marked v_refusal v_latestFault v_faultPlace v_inn_minutes v_inn_things v_inn_dreams v_inn_sleepers v_inn_listeners v_inn_states)) (As := [.int p0, .int p1, .int p2]) (rest := [.ref h]) C (ctX2_ofState l E h_inn h_inn_house h_inn_thingIn h_inn_full h_inn_states h_inn_bed h_inn_dreamOf h_inn_listensIn v_inn_minutes v_inn_things v_inn_dreams v_inn_sleepers v_inn_listeners v_inn_states N p0 p1 p2 r_63 hc_63) ml_X10_145 ⟨Nat.le_of_ble_eq_true rfl, Nat.le_of_ble_eq_true rfl⟩ hP hD hS 1 rfl rfl rfl [1, 2] rfl rfl rfl rfl rfl hl.1 rfl (Nat.le_of_ble_eq_true rfl) ⟨Nat.zero_le _, Nat.zero_le _⟩ dX10_dream_63 ?_
          clear hP hD hS; intro H locs hP hD hS
          obtain ⟨r_66, v_refusal_66, hc_66, hf⟩ := bd2 hf
          refine r_callVi (ws' := (wX10_dream E h h_reader h_inn h_chosen h_night h_marks h_notes h_casts h_inn_house h_inn_thingIn h_inn_full h_inn_states h_inn_bed h_inn_dreamOf h_inn_listensIn v_marked v_refusal_66 v_latestFault v_faultPlace v_inn_minutes v_inn_things v_inn_dreams v_inn_sleepers v_inn_listeners v_inn_states)) (As := [.int r_63]) (rest := []) C (ctX10_answer l E h h_reader h_inn h_chosen h_night h_marks h_notes h_casts v_marked v_refusal v_latestFault v_faultPlace N r_63 r_66 v_refusal_66 hc_66) ml_X10_95 ⟨Nat.le_of_ble_eq_true rfl, Nat.le_of_ble_eq_true rfl⟩ hP hD hS 0 rfl rfl rfl [0] rfl rfl rfl rfl rfl hl.1 rfl (Nat.le_of_ble_eq_true rfl) ⟨Nat.zero_le _, Nat.zero_le _⟩ dX10_dream_66 ?_
          clear hP hD hS; intro H locs hP hD hS
          cases hf
          rw [hQ]
          exact r_iret C hr hP hD hS rfl dX10_dream_69
        · replace hf := it_t c_45 hf
          refine lv_aload_n hx hb dX10_dream_48 rfl (lv_at hl 0 rfl) ?_
          refine lv_bipush (v := 6) hx hb dX10_dream_49 (by decide) ?_
          obtain ⟨r_51, v_refusal_51, hc_51, hf⟩ := bd2 hf
          refine r_callVi (ws' := (wX10_dream E h h_reader h_inn h_chosen h_night h_marks h_notes h_casts h_inn_house h_inn_thingIn h_inn_full h_inn_states h_inn_bed h_inn_dreamOf h_inn_listensIn v_marked v_refusal_51 v_latestFault v_faultPlace v_inn_minutes v_inn_things v_inn_dreams v_inn_sleepers v_inn_listeners v_inn_states)) (As := [.int 6]) (rest := []) C (ctX10_refuse l E h h_reader h_inn h_chosen h_night h_marks h_notes h_casts v_marked v_refusal v_latestFault v_faultPlace N 6 r_51 v_refusal_51 hc_51) ml_X10_68 ⟨Nat.le_of_ble_eq_true rfl, Nat.le_of_ble_eq_true rfl⟩ hP hD hS 0 rfl rfl rfl [0] rfl rfl rfl rfl rfl hl.1 rfl (Nat.le_of_ble_eq_true rfl) ⟨Nat.zero_le _, Nat.zero_le _⟩ dX10_dream_51 ?_
          clear hP hD hS; intro H locs hP hD hS
          cases hf
          rw [hQ]
          exact r_iret C hr hP hD hS rfl dX10_dream_54
      · replace hf := it_t c_27 hf
        refine lv_aload_n hx hb dX10_dream_30 rfl (lv_at hl 0 rfl) ?_
        refine lv_iconst (v := 1) hx hb dX10_dream_31 (by decide) ?_
        obtain ⟨r_32, v_refusal_32, hc_32, hf⟩ := bd2 hf
        refine r_callVi (ws' := (wX10_dream E h h_reader h_inn h_chosen h_night h_marks h_notes h_casts h_inn_house h_inn_thingIn h_inn_full h_inn_states h_inn_bed h_inn_dreamOf h_inn_listensIn v_marked v_refusal_32 v_latestFault v_faultPlace v_inn_minutes v_inn_things v_inn_dreams v_inn_sleepers v_inn_listeners v_inn_states)) (As := [.int 1]) (rest := []) C (ctX10_refuse l E h h_reader h_inn h_chosen h_night h_marks h_notes h_casts v_marked v_refusal v_latestFault v_faultPlace N 1 r_32 v_refusal_32 hc_32) ml_X10_68 ⟨Nat.le_of_ble_eq_true rfl, Nat.le_of_ble_eq_true rfl⟩ hP hD hS 0 rfl rfl rfl [0] rfl rfl rfl rfl rfl hl.1 rfl (Nat.le_of_ble_eq_true rfl) ⟨Nat.zero_le _, Nat.zero_le _⟩ dX10_dream_32 ?_
        clear hP hD hS; intro H locs hP hD hS
        cases hf
        rw [hQ]
        exact r_iret C hr hP hD hS rfl dX10_dream_35
def wX10_isTold (E : EN) (h h_reader h_inn h_chosen h_night h_marks h_notes h_casts h_inn_house h_inn_thingIn h_inn_full h_inn_states h_inn_bed h_inn_dreamOf h_inn_listensIn : Nat) (v_marked : Int32) (v_refusal : Int32) (v_latestFault : Int32) (v_faultPlace : Int32) (v_inn_minutes : Int32) (v_inn_things : Int32) (v_inn_dreams : Int32) (v_inn_sleepers : Int32) (v_inn_listeners : Int32) : va_W := [(h, .inr (9, [.ref h_reader, .ref h_inn, .ref h_chosen, .ref h_night, .ref h_marks, .int v_marked, .ref h_notes, .ref h_casts, .int v_refusal, .int v_latestFault, .int v_faultPlace])), (h_inn, .inr (2, [.ref h_inn_house, .int v_inn_minutes, .int v_inn_things, .ref h_inn_thingIn, .ref h_inn_full, .int v_inn_dreams, .ref h_inn_states, .int v_inn_sleepers, .ref h_inn_bed, .ref h_inn_dreamOf, .int v_inn_listeners, .ref h_inn_listensIn]))]
def fX10_isTold (N : Nat) (v_inn_minutes : Int32) : Option Int32 := if v_inn_minutes ≤ 0 then (some 0) else (some 1)
set_option maxHeartbeats 4000000 in
set_option maxRecDepth 100000 in
theorem ctX10_isTold (l : Launch) (E : EN) (h h_reader h_inn h_chosen h_night h_marks h_notes h_casts h_inn_house h_inn_thingIn h_inn_full h_inn_states h_inn_bed h_inn_dreamOf h_inn_listensIn : Nat) (v_marked : Int32) (v_refusal : Int32) (v_latestFault : Int32) (v_faultPlace : Int32) (v_inn_minutes : Int32) (v_inn_things : Int32) (v_inn_dreams : Int32) (v_inn_sleepers : Int32) (v_inn_listeners : Int32) (N : Nat) (z0 : Int32) (hf : fX10_isTold N v_inn_minutes = some z0) : CTi l E yX10_isTold cX10_isTold 1 .boolean 0 0 [.ref h] (wX10_isTold E h h_reader h_inn h_chosen h_night h_marks h_notes h_casts h_inn_house h_inn_thingIn h_inn_full h_inn_states h_inn_bed h_inn_dreamOf h_inn_listensIn v_marked v_refusal v_latestFault v_faultPlace v_inn_minutes v_inn_things v_inn_dreams v_inn_sleepers v_inn_listeners) z0 (wX10_isTold E h h_reader h_inn h_chosen h_night h_marks h_notes h_casts h_inn_house h_inn_thingIn h_inn_full h_inn_states h_inn_bed h_inn_dreamOf h_inn_listensIn v_marked v_refusal v_latestFault v_faultPlace v_inn_minutes v_inn_things v_inn_dreams v_inn_sleepers v_inn_listeners) := by
  intro sz
  refine ct_body (by decide) (Nat.le_of_ble_eq_true rfl) ?_
  intro p e s m args below meth c A ls hAe C hr hin hP hD hS hl
  have C : CX p s m args meth c cX10_isTold RX10 1 E A := C
  have hl : lv_has ls 1 [(0, .ref h)] := hl
  have hx := C.1
  have hb := C.2.1
  rw [hAe]
  clear hAe
  obtain ⟨Q, hQ⟩ : ∃ Q, Q = MQ below (Qi E A z0 (wX10_isTold E h h_reader h_inn h_chosen h_night h_marks h_notes h_casts h_inn_house h_inn_thingIn h_inn_full h_inn_states h_inn_bed h_inn_dreamOf h_inn_listensIn v_marked v_refusal v_latestFault v_faultPlace v_inn_minutes v_inn_things v_inn_dreams v_inn_sleepers v_inn_listeners)) args s 0 0 A := ⟨_, rfl⟩
  rw [← hQ]
  unfold fX10_isTold at hf
  refine lv_aload_n hx hb dX10_isTold_0 rfl (lv_at hl 0 rfl) ?_
  refine r_get C hP 0 rfl fl_X10_19 rfl dX10_isTold_1 ?_
  refine r_get C hP 1 rfl fl_X10_172 rfl dX10_isTold_4 ?_
  refine lv_if_le (tgt := 14) hx hb dX10_isTold_7 (by decide) (fun c_7 => ?_) (fun c_7 => ?_)
  · replace hf := it_t c_7 hf
    refine lv_iconst (v := 0) hx hb dX10_isTold_14 (by decide) ?_
    cases hf
    rw [hQ]
    exact r_zret C hr hP hD hS (Or.inl rfl) rfl dX10_isTold_15
  · replace hf := it_f c_7 hf
    refine lv_iconst (v := 1) hx hb dX10_isTold_10 (by decide) ?_
    refine lv_goto (tgt := 15) hx hb dX10_isTold_11 (by decide) ?_
    cases hf
    rw [hQ]
    exact r_zret C hr hP hD hS (Or.inr rfl) rfl dX10_isTold_15
def wX2_settings (E : EN) (h h_house h_thingIn h_full h_states h_bed h_dreamOf h_listensIn h_house_creak h_house_cold h_house_one h_house_other h_house_how h_house_falls h_house_ways : Nat) (v_minutes : Int32) (v_things : Int32) (v_dreams : Int32) (v_sleepers : Int32) (v_listeners : Int32) (v_house_rooms : Int32) (v_house_doors : Int32) : va_W := [(h, .inr (2, [.ref h_house, .int v_minutes, .int v_things, .ref h_thingIn, .ref h_full, .int v_dreams, .ref h_states, .int v_sleepers, .ref h_bed, .ref h_dreamOf, .int v_listeners, .ref h_listensIn])), (h_house, .inr (1, [.int v_house_rooms, .ref h_house_creak, .ref h_house_cold, .int v_house_doors, .ref h_house_one, .ref h_house_other, .ref h_house_how, .ref h_house_falls, .ref h_house_ways]))]
def fX2_settings (N : Nat) (v_house_doors : Int32) : Option Int32 := some (1 + (2 * v_house_doors))
set_option maxHeartbeats 4000000 in
set_option maxRecDepth 100000 in
theorem ctX2_settings (l : Launch) (E : EN) (h h_house h_thingIn h_full h_states h_bed h_dreamOf h_listensIn h_house_creak h_house_cold h_house_one h_house_other h_house_how h_house_falls h_house_ways : Nat) (v_minutes : Int32) (v_things : Int32) (v_dreams : Int32) (v_sleepers : Int32) (v_listeners : Int32) (v_house_rooms : Int32) (v_house_doors : Int32) (N : Nat) (z0 : Int32) (hf : fX2_settings N v_house_doors = some z0) : CTi l E yX2_settings cX2_settings 1 .int 0 0 [.ref h] (wX2_settings E h h_house h_thingIn h_full h_states h_bed h_dreamOf h_listensIn h_house_creak h_house_cold h_house_one h_house_other h_house_how h_house_falls h_house_ways v_minutes v_things v_dreams v_sleepers v_listeners v_house_rooms v_house_doors) z0 (wX2_settings E h h_house h_thingIn h_full h_states h_bed h_dreamOf h_listensIn h_house_creak h_house_cold h_house_one h_house_other h_house_how h_house_falls h_house_ways v_minutes v_things v_dreams v_sleepers v_listeners v_house_rooms v_house_doors) := by
  intro sz
  refine ct_body (by decide) (Nat.le_of_ble_eq_true rfl) ?_
  intro p e s m args below meth c A ls hAe C hr hin hP hD hS hl
  have C : CX p s m args meth c cX2_settings RX2 1 E A := C
  have hl : lv_has ls 1 [(0, .ref h)] := hl
  have hx := C.1
  have hb := C.2.1
  rw [hAe]
  clear hAe
  obtain ⟨Q, hQ⟩ : ∃ Q, Q = MQ below (Qi E A z0 (wX2_settings E h h_house h_thingIn h_full h_states h_bed h_dreamOf h_listensIn h_house_creak h_house_cold h_house_one h_house_other h_house_how h_house_falls h_house_ways v_minutes v_things v_dreams v_sleepers v_listeners v_house_rooms v_house_doors)) args s 0 0 A := ⟨_, rfl⟩
  rw [← hQ]
  unfold fX2_settings at hf
  refine lv_iconst (v := 1) hx hb dX2_settings_0 (by decide) ?_
  refine lv_iconst (v := 2) hx hb dX2_settings_1 (by decide) ?_
  refine lv_aload_n hx hb dX2_settings_2 rfl (lv_at hl 0 rfl) ?_
  refine r_get C hP 0 rfl fl_X2_12 rfl dX2_settings_3 ?_
  refine r_get C hP 1 rfl fl_X2_42 rfl dX2_settings_6 ?_
  refine lv_imul hx hb dX2_settings_9 ?_
  refine lv_iadd hx hb dX2_settings_10 ?_
  cases hf
  rw [hQ]
  exact r_iret C hr hP hD hS rfl dX2_settings_11
def wX10_isSetting (E : EN) (h h_reader h_inn h_chosen h_night h_marks h_notes h_casts h_inn_house h_inn_thingIn h_inn_full h_inn_states h_inn_bed h_inn_dreamOf h_inn_listensIn h_inn_house_creak h_inn_house_cold h_inn_house_one h_inn_house_other h_inn_house_how h_inn_house_falls h_inn_house_ways : Nat) (v_marked : Int32) (v_refusal : Int32) (v_latestFault : Int32) (v_faultPlace : Int32) (v_inn_minutes : Int32) (v_inn_things : Int32) (v_inn_dreams : Int32) (v_inn_sleepers : Int32) (v_inn_listeners : Int32) (v_inn_house_rooms : Int32) (v_inn_house_doors : Int32) : va_W := [(h, .inr (9, [.ref h_reader, .ref h_inn, .ref h_chosen, .ref h_night, .ref h_marks, .int v_marked, .ref h_notes, .ref h_casts, .int v_refusal, .int v_latestFault, .int v_faultPlace])), (h_inn, .inr (2, [.ref h_inn_house, .int v_inn_minutes, .int v_inn_things, .ref h_inn_thingIn, .ref h_inn_full, .int v_inn_dreams, .ref h_inn_states, .int v_inn_sleepers, .ref h_inn_bed, .ref h_inn_dreamOf, .int v_inn_listeners, .ref h_inn_listensIn])), (h_inn_house, .inr (1, [.int v_inn_house_rooms, .ref h_inn_house_creak, .ref h_inn_house_cold, .int v_inn_house_doors, .ref h_inn_house_one, .ref h_inn_house_other, .ref h_inn_house_how, .ref h_inn_house_falls, .ref h_inn_house_ways]))]
def fX10_isSetting (N : Nat) (p0 : Int32) (v_inn_minutes : Int32) (v_inn_house_doors : Int32) : Option Int32 := (fX10_isTold N v_inn_minutes).bind (un1 fun (r_1 : Int32) => jn (un0 (some 0)) (fun j25 => if r_1 = 0 then (j25 ()) else ((fX2_settings N v_inn_house_doors).bind (un1 fun (r_12 : Int32) => (fX10_isBelow N p0 r_12).bind (un1 fun (r_15 : Int32) => if r_15 = 0 then (j25 ()) else (some 1))))))
set_option maxHeartbeats 4000000 in
set_option maxRecDepth 100000 in
theorem ctX10_isSetting (l : Launch) (E : EN) (h h_reader h_inn h_chosen h_night h_marks h_notes h_casts h_inn_house h_inn_thingIn h_inn_full h_inn_states h_inn_bed h_inn_dreamOf h_inn_listensIn h_inn_house_creak h_inn_house_cold h_inn_house_one h_inn_house_other h_inn_house_how h_inn_house_falls h_inn_house_ways : Nat) (v_marked : Int32) (v_refusal : Int32) (v_latestFault : Int32) (v_faultPlace : Int32) (v_inn_minutes : Int32) (v_inn_things : Int32) (v_inn_dreams : Int32) (v_inn_sleepers : Int32) (v_inn_listeners : Int32) (v_inn_house_rooms : Int32) (v_inn_house_doors : Int32) (N : Nat) (p0 : Int32) (z0 : Int32) (hf : fX10_isSetting N p0 v_inn_minutes v_inn_house_doors = some z0) : CTi l E yX10_isSetting cX10_isSetting 2 .boolean 1 21 [.ref h, .int p0] (wX10_isSetting E h h_reader h_inn h_chosen h_night h_marks h_notes h_casts h_inn_house h_inn_thingIn h_inn_full h_inn_states h_inn_bed h_inn_dreamOf h_inn_listensIn h_inn_house_creak h_inn_house_cold h_inn_house_one h_inn_house_other h_inn_house_how h_inn_house_falls h_inn_house_ways v_marked v_refusal v_latestFault v_faultPlace v_inn_minutes v_inn_things v_inn_dreams v_inn_sleepers v_inn_listeners v_inn_house_rooms v_inn_house_doors) z0 (wX10_isSetting E h h_reader h_inn h_chosen h_night h_marks h_notes h_casts h_inn_house h_inn_thingIn h_inn_full h_inn_states h_inn_bed h_inn_dreamOf h_inn_listensIn h_inn_house_creak h_inn_house_cold h_inn_house_one h_inn_house_other h_inn_house_how h_inn_house_falls h_inn_house_ways v_marked v_refusal v_latestFault v_faultPlace v_inn_minutes v_inn_things v_inn_dreams v_inn_sleepers v_inn_listeners v_inn_house_rooms v_inn_house_doors) := by
  intro sz
  refine ct_body (by decide) (Nat.le_of_ble_eq_true rfl) ?_
  intro p e s m args below meth c A ls hAe C hr hin hP hD hS hl
  have C : CX p s m args meth c cX10_isSetting RX10 2 E A := C
  have hl : lv_has ls 2 [(0, .ref h), (1, .int p0)] := hl
  have hx := C.1
  have hb := C.2.1
  rw [hAe]
  clear hAe
  obtain ⟨Q, hQ⟩ : ∃ Q, Q = MQ below (Qi E A z0 (wX10_isSetting E h h_reader h_inn h_chosen h_night h_marks h_notes h_casts h_inn_house h_inn_thingIn h_inn_full h_inn_states h_inn_bed h_inn_dreamOf h_inn_listensIn h_inn_house_creak h_inn_house_cold h_inn_house_one h_inn_house_other h_inn_house_how h_inn_house_falls h_inn_house_ways v_marked v_refusal v_latestFault v_faultPlace v_inn_minutes v_inn_things v_inn_dreams v_inn_sleepers v_inn_listeners v_inn_house_rooms v_inn_house_doors)) args s 0 0 A := ⟨_, rfl⟩
  rw [← hQ]
  unfold fX10_isSetting at hf
  refine lv_aload_n hx hb dX10_isSetting_0 rfl (lv_at hl 0 rfl) ?_
  obtain ⟨r_1, hc_1, hf⟩ := bd1 hf
  refine r_callVi (ws' := (wX10_isSetting E h h_reader h_inn h_chosen h_night h_marks h_notes h_casts h_inn_house h_inn_thingIn h_inn_full h_inn_states h_inn_bed h_inn_dreamOf h_inn_listensIn h_inn_house_creak h_inn_house_cold h_inn_house_one h_inn_house_other h_inn_house_how h_inn_house_falls h_inn_house_ways v_marked v_refusal v_latestFault v_faultPlace v_inn_minutes v_inn_things v_inn_dreams v_inn_sleepers v_inn_listeners v_inn_house_rooms v_inn_house_doors)) (As := []) (rest := []) C (ctX10_isTold l E h h_reader h_inn h_chosen h_night h_marks h_notes h_casts h_inn_house h_inn_thingIn h_inn_full h_inn_states h_inn_bed h_inn_dreamOf h_inn_listensIn v_marked v_refusal v_latestFault v_faultPlace v_inn_minutes v_inn_things v_inn_dreams v_inn_sleepers v_inn_listeners N r_1 hc_1) ml_X10_170 ⟨Nat.le_of_ble_eq_true rfl, Nat.le_of_ble_eq_true rfl⟩ hP hD hS 0 rfl rfl rfl [0, 1] rfl rfl rfl rfl rfl hl.1 rfl (Nat.le_of_ble_eq_true rfl) ⟨Nat.zero_le _, Nat.zero_le _⟩ dX10_isSetting_1 ?_
  clear hP hD hS; intro H locs hP hD hS
  refine jnK hf (fun j25 ej25 hf => ?_)
  have hj25 : j25 () = some z0 → AT p l e (rmOf 1 21) s m args below meth c E A Q 0 0 2 [] (wX10_isSetting E h h_reader h_inn h_chosen h_night h_marks h_notes h_casts h_inn_house h_inn_thingIn h_inn_full h_inn_states h_inn_bed h_inn_dreamOf h_inn_listensIn h_inn_house_creak h_inn_house_cold h_inn_house_one h_inn_house_other h_inn_house_how h_inn_house_falls h_inn_house_ways v_marked v_refusal v_latestFault v_faultPlace v_inn_minutes v_inn_things v_inn_dreams v_inn_sleepers v_inn_listeners v_inn_house_rooms v_inn_house_doors) 25 [] := by
    intro  hf H locs ls hl hP hD hS
    rw [ej25] at hf
    replace hf := un0_s hf
    refine lv_iconst (v := 0) hx hb dX10_isSetting_25 (by decide) ?_
    cases hf
    rw [hQ]
    exact r_zret C hr hP hD hS (Or.inl rfl) rfl dX10_isSetting_26
  clear ej25
  refine lv_if_eq (tgt := 25) hx hb dX10_isSetting_4 (by decide) (fun c_4 => ?_) (fun c_4 => ?_)
  · replace hf := it_t c_4 hf
    exact hj25  hf _ _ _ (lv_sub hl [] rfl) hP hD hS
  · replace hf := it_f c_4 hf
    refine lv_iload_n hx hb dX10_isSetting_7 rfl (lv_at hl 1 rfl) ?_
    refine lv_aload_n hx hb dX10_isSetting_8 rfl (lv_at hl 0 rfl) ?_
    refine r_get C hP 0 rfl fl_X10_19 rfl dX10_isSetting_9 ?_
    obtain ⟨r_12, hc_12, hf⟩ := bd1 hf
    refine r_callVi (ws' := (wX10_isSetting E h h_reader h_inn h_chosen h_night h_marks h_notes h_casts h_inn_house h_inn_thingIn h_inn_full h_inn_states h_inn_bed h_inn_dreamOf h_inn_listensIn h_inn_house_creak h_inn_house_cold h_inn_house_one h_inn_house_other h_inn_house_how h_inn_house_falls h_inn_house_ways v_marked v_refusal v_latestFault v_faultPlace v_inn_minutes v_inn_things v_inn_dreams v_inn_sleepers v_inn_listeners v_inn_house_rooms v_inn_house_doors)) (As := []) (rest := [.int p0]) C (ctX2_settings l E h_inn h_inn_house h_inn_thingIn h_inn_full h_inn_states h_inn_bed h_inn_dreamOf h_inn_listensIn h_inn_house_creak h_inn_house_cold h_inn_house_one h_inn_house_other h_inn_house_how h_inn_house_falls h_inn_house_ways v_inn_minutes v_inn_things v_inn_dreams v_inn_sleepers v_inn_listeners v_inn_house_rooms v_inn_house_doors N r_12 hc_12) ml_X10_275 ⟨Nat.le_of_ble_eq_true rfl, Nat.le_of_ble_eq_true rfl⟩ hP hD hS 1 rfl rfl rfl [1, 2] rfl rfl rfl rfl rfl hl.1 rfl (Nat.le_of_ble_eq_true rfl) ⟨Nat.zero_le _, Nat.zero_le _⟩ dX10_isSetting_12 ?_
    clear hP hD hS; intro H locs hP hD hS
    obtain ⟨r_15, hc_15, hf⟩ := bd1 hf
    refine r_callSi (ws' := (wX10_isSetting E h h_reader h_inn h_chosen h_night h_marks h_notes h_casts h_inn_house h_inn_thingIn h_inn_full h_inn_states h_inn_bed h_inn_dreamOf h_inn_listensIn h_inn_house_creak h_inn_house_cold h_inn_house_one h_inn_house_other h_inn_house_how h_inn_house_falls h_inn_house_ways v_marked v_refusal v_latestFault v_faultPlace v_inn_minutes v_inn_things v_inn_dreams v_inn_sleepers v_inn_listeners v_inn_house_rooms v_inn_house_doors)) (As := [.int p0, .int r_12]) (rest := []) C (ctX10_isBelow l E N p0 r_12 r_15 hc_15) ml_X10_121 ⟨Nat.le_of_ble_eq_true rfl, Nat.le_of_ble_eq_true rfl⟩ hP hD hS [] rfl rfl rfl rfl rfl hl.1 rfl (Nat.le_of_ble_eq_true rfl) ⟨Nat.zero_le _, Nat.zero_le _⟩ dX10_isSetting_15 ?_
    clear hP hD hS; intro H locs hP hD hS
    refine lv_if_eq (tgt := 25) hx hb dX10_isSetting_18 (by decide) (fun c_18 => ?_) (fun c_18 => ?_)
    · replace hf := it_t c_18 hf
      exact hj25  hf _ _ _ (lv_sub hl [] rfl) hP hD hS
    · replace hf := it_f c_18 hf
      refine lv_iconst (v := 1) hx hb dX10_isSetting_21 (by decide) ?_
      refine lv_goto (tgt := 26) hx hb dX10_isSetting_22 (by decide) ?_
      cases hf
      rw [hQ]
      exact r_zret C hr hP hD hS (Or.inr rfl) rfl dX10_isSetting_26
def wX10_deny (E : EN) (h h_reader h_inn h_chosen h_night h_marks h_notes h_casts : Nat) (v_marked : Int32) (v_refusal : Int32) (v_latestFault : Int32) (v_faultPlace : Int32) : va_W := [(h, .inr (9, [.ref h_reader, .ref h_inn, .ref h_chosen, .ref h_night, .ref h_marks, .int v_marked, .ref h_notes, .ref h_casts, .int v_refusal, .int v_latestFault, .int v_faultPlace]))]
def fX10_deny (N : Nat) (p0 : Int32) : Option (Int32 × Int32) := some (0, p0)
set_option maxHeartbeats 4000000 in
set_option maxRecDepth 100000 in
theorem ctX10_deny (l : Launch) (E : EN) (h h_reader h_inn h_chosen h_night h_marks h_notes h_casts : Nat) (v_marked : Int32) (v_refusal : Int32) (v_latestFault : Int32) (v_faultPlace : Int32) (N : Nat) (p0 : Int32) (z0 : Int32) (z1 : Int32) (hf : fX10_deny N p0 = some (z0, z1)) : CTi l E yX10_deny cX10_deny 2 .boolean 0 0 [.ref h, .int p0] (wX10_deny E h h_reader h_inn h_chosen h_night h_marks h_notes h_casts v_marked v_refusal v_latestFault v_faultPlace) z0 (wX10_deny E h h_reader h_inn h_chosen h_night h_marks h_notes h_casts v_marked z1 v_latestFault v_faultPlace) := by
  intro sz
  refine ct_body (by decide) (Nat.le_of_ble_eq_true rfl) ?_
  intro p e s m args below meth c A ls hAe C hr hin hP hD hS hl
  have C : CX p s m args meth c cX10_deny RX10 2 E A := C
  have hl : lv_has ls 2 [(0, .ref h), (1, .int p0)] := hl
  have hx := C.1
  have hb := C.2.1
  rw [hAe]
  clear hAe
  obtain ⟨Q, hQ⟩ : ∃ Q, Q = MQ below (Qi E A z0 (wX10_deny E h h_reader h_inn h_chosen h_night h_marks h_notes h_casts v_marked z1 v_latestFault v_faultPlace)) args s 0 0 A := ⟨_, rfl⟩
  rw [← hQ]
  unfold fX10_deny at hf
  refine lv_aload_n hx hb dX10_deny_0 rfl (lv_at hl 0 rfl) ?_
  refine lv_iload_n hx hb dX10_deny_1 rfl (lv_at hl 1 rfl) ?_
  refine r_put (ws' := (wX10_deny E h h_reader h_inn h_chosen h_night h_marks h_notes h_casts v_marked p0 v_latestFault v_faultPlace)) C hP hD hS 0 rfl fl_X10_98 rfl rfl (by decide) rfl dX10_deny_2 ?_
  clear hP hD hS; intro H locs hP hD hS
  refine lv_iconst (v := 0) hx hb dX10_deny_5 (by decide) ?_
  cases hf
  rw [hQ]
  exact r_zret C hr hP hD hS (Or.inl rfl) rfl dX10_deny_6
def wX10_agree (E : EN) (h h_reader h_inn h_chosen h_night h_marks h_notes h_casts : Nat) (v_marked : Int32) (v_refusal : Int32) (v_latestFault : Int32) (v_faultPlace : Int32) : va_W := [(h, .inr (9, [.ref h_reader, .ref h_inn, .ref h_chosen, .ref h_night, .ref h_marks, .int v_marked, .ref h_notes, .ref h_casts, .int v_refusal, .int v_latestFault, .int v_faultPlace]))]
def fX10_agree (N : Nat) : Option (Int32 × Int32) := some (1, 0)
set_option maxHeartbeats 4000000 in
set_option maxRecDepth 100000 in
theorem ctX10_agree (l : Launch) (E : EN) (h h_reader h_inn h_chosen h_night h_marks h_notes h_casts : Nat) (v_marked : Int32) (v_refusal : Int32) (v_latestFault : Int32) (v_faultPlace : Int32) (N : Nat) (z0 : Int32) (z1 : Int32) (hf : fX10_agree N  = some (z0, z1)) : CTi l E yX10_agree cX10_agree 1 .boolean 0 0 [.ref h] (wX10_agree E h h_reader h_inn h_chosen h_night h_marks h_notes h_casts v_marked v_refusal v_latestFault v_faultPlace) z0 (wX10_agree E h h_reader h_inn h_chosen h_night h_marks h_notes h_casts v_marked z1 v_latestFault v_faultPlace) := by
  intro sz
  refine ct_body (by decide) (Nat.le_of_ble_eq_true rfl) ?_
  intro p e s m args below meth c A ls hAe C hr hin hP hD hS hl
  have C : CX p s m args meth c cX10_agree RX10 1 E A := C
  have hl : lv_has ls 1 [(0, .ref h)] := hl
  have hx := C.1
  have hb := C.2.1
  rw [hAe]
  clear hAe
  obtain ⟨Q, hQ⟩ : ∃ Q, Q = MQ below (Qi E A z0 (wX10_agree E h h_reader h_inn h_chosen h_night h_marks h_notes h_casts v_marked z1 v_latestFault v_faultPlace)) args s 0 0 A := ⟨_, rfl⟩
  rw [← hQ]
  unfold fX10_agree at hf
  refine lv_aload_n hx hb dX10_agree_0 rfl (lv_at hl 0 rfl) ?_
  refine lv_iconst (v := 0) hx hb dX10_agree_1 (by decide) ?_
  refine r_put (ws' := (wX10_agree E h h_reader h_inn h_chosen h_night h_marks h_notes h_casts v_marked 0 v_latestFault v_faultPlace)) C hP hD hS 0 rfl fl_X10_98 rfl rfl (by decide) rfl dX10_agree_2 ?_
  clear hP hD hS; intro H locs hP hD hS
  refine lv_iconst (v := 1) hx hb dX10_agree_5 (by decide) ?_
  cases hf
  rw [hQ]
  exact r_zret C hr hP hD hS (Or.inr rfl) rfl dX10_agree_6
def wX10_nightfall (E : EN) (h h_reader h_inn h_chosen h_night h_marks h_notes h_casts h_inn_house h_inn_thingIn h_inn_full h_inn_states h_inn_bed h_inn_dreamOf h_inn_listensIn h_inn_house_creak h_inn_house_cold h_inn_house_one h_inn_house_other h_inn_house_how h_inn_house_falls h_inn_house_ways h_night_ways h_night_how h_night_passed h_night_dreamOf h_night_stateOf h_night_roomOf h_night_handOf h_night_awake h_night_thingIn h_night_full h_night_heardBy h_night_ways_steps : Nat) (v_marked : Int32) (v_refusal : Int32) (v_latestFault : Int32) (v_faultPlace : Int32) (v_inn_minutes : Int32) (v_inn_things : Int32) (v_inn_dreams : Int32) (v_inn_sleepers : Int32) (v_inn_listeners : Int32) (v_inn_house_rooms : Int32) (v_inn_house_doors : Int32) (v_night_setting : Int32) (v_night_been : Int32) (v_inn_house_how : Nat → Int32) (v_night_ways_rooms : Int32) (v_night_ways_steps : Nat → Int32) (v_inn_house_one : Nat → Int32) (v_inn_house_other : Nat → Int32) (v_inn_thingIn : Nat → Int32) (v_night_thingIn : Nat → Int32) (v_inn_full : Nat → Int32) (v_night_full : Nat → Int32) (v_night_heardBy : Nat → Int64) (v_chosen : Nat → Int32) (v_night_dreamOf : Nat → Int32) (v_night_stateOf : Nat → Int32) (v_inn_bed : Nat → Int32) (v_night_roomOf : Nat → Int32) (v_night_handOf : Nat → Int32) (v_night_awake : Nat → Int32) (v_night_how : Nat → Int32) (v_night_passed : Nat → Int32) : va_W := [(h, .inr (9, [.ref h_reader, .ref h_inn, .ref h_chosen, .ref h_night, .ref h_marks, .int v_marked, .ref h_notes, .ref h_casts, .int v_refusal, .int v_latestFault, .int v_faultPlace])), (h_inn, .inr (2, [.ref h_inn_house, .int v_inn_minutes, .int v_inn_things, .ref h_inn_thingIn, .ref h_inn_full, .int v_inn_dreams, .ref h_inn_states, .int v_inn_sleepers, .ref h_inn_bed, .ref h_inn_dreamOf, .int v_inn_listeners, .ref h_inn_listensIn])), (h_inn_house, .inr (1, [.int v_inn_house_rooms, .ref h_inn_house_creak, .ref h_inn_house_cold, .int v_inn_house_doors, .ref h_inn_house_one, .ref h_inn_house_other, .ref h_inn_house_how, .ref h_inn_house_falls, .ref h_inn_house_ways])), (h_night, .inr (4, [.ref h_inn, .int v_night_setting, .int v_night_been, .ref h_night_ways, .ref h_night_how, .ref h_night_passed, .ref h_night_dreamOf, .ref h_night_stateOf, .ref h_night_roomOf, .ref h_night_handOf, .ref h_night_awake, .ref h_night_thingIn, .ref h_night_full, .ref h_night_heardBy])), (h_inn_house_how, aI E 10 v_inn_house_how), (h_night_ways, .inr (8, [.ref h_night_ways_steps, .int v_night_ways_rooms])), (h_night_ways_steps, aI E 64 v_night_ways_steps), (h_inn_house_one, aI E 10 v_inn_house_one), (h_inn_house_other, aI E 10 v_inn_house_other), (h_inn_thingIn, aI E 4 v_inn_thingIn), (h_night_thingIn, aI E 4 v_night_thingIn), (h_inn_full, aZ E 4 v_inn_full), (h_night_full, aZ E 4 v_night_full), (h_night_heardBy, aJ E 3 v_night_heardBy), (h_chosen, aI E 3 v_chosen), (h_night_dreamOf, aI E 3 v_night_dreamOf), (h_night_stateOf, aI E 3 v_night_stateOf), (h_inn_bed, aI E 3 v_inn_bed), (h_night_roomOf, aI E 3 v_night_roomOf), (h_night_handOf, aI E 3 v_night_handOf), (h_night_awake, aZ E 3 v_night_awake), (h_night_how, aI E 10 v_night_how), (h_night_passed, aI E 10 v_night_passed)]
def fX10_nightfall (N : Nat) (p0 : Int32) (v_inn_minutes : Int32) (v_inn_sleepers : Int32) (v_inn_house_rooms : Int32) (v_inn_house_doors : Int32) (v_night_setting : Int32) (v_night_been : Int32) (v_inn_house_how : Nat → Int32) (v_night_ways_rooms : Int32) (v_night_ways_steps : Nat → Int32) (v_inn_house_one : Nat → Int32) (v_inn_house_other : Nat → Int32) (v_inn_thingIn : Nat → Int32) (v_night_thingIn : Nat → Int32) (v_inn_full : Nat → Int32) (v_night_full : Nat → Int32) (v_night_heardBy : Nat → Int64) (v_chosen : Nat → Int32) (v_night_dreamOf : Nat → Int32) (v_night_stateOf : Nat → Int32) (v_inn_bed : Nat → Int32) (v_night_roomOf : Nat → Int32) (v_night_handOf : Nat → Int32) (v_night_awake : Nat → Int32) (v_night_how : Nat → Int32) (v_night_passed : Nat → Int32) : Option (Int32 × Int32 × Int32 × Int32 × Int32 × (Nat → Int32) × (Nat → Int32) × (Nat → Int32) × (Nat → Int64) × (Nat → Int32) × (Nat → Int32) × (Nat → Int32) × (Nat → Int32) × (Nat → Int32) × (Nat → Int32) × (Nat → Int32)) := (fX10_isSetting N p0 v_inn_minutes v_inn_house_doors).bind (un1 fun (r_2 : Int32) => if r_2 = 0 then ((fX10_deny N 1).bind (un2 fun (r_10 : Int32) (v_refusal_10 : Int32) => zg r_10 (some (r_10, v_refusal_10, v_night_setting, v_night_been, v_night_ways_rooms, v_night_ways_steps, v_night_thingIn, v_night_full, v_night_heardBy, v_night_dreamOf, v_night_stateOf, v_night_roomOf, v_night_handOf, v_night_awake, v_night_how, v_night_passed))) else ((fX4_prepare N p0 v_inn_house_rooms v_inn_house_doors v_inn_house_how v_night_ways_steps v_inn_house_one v_inn_house_other).bind (un3 fun (v_night_setting_23 : Int32) (v_night_ways_rooms_23 : Int32) (v_night_ways_steps_23 : Nat → Int32) => (fX4_begin N 0 v_night_setting_23 v_inn_sleepers v_inn_house_doors v_inn_thingIn v_night_thingIn v_inn_full v_night_full v_night_heardBy v_chosen v_night_dreamOf v_night_stateOf v_inn_bed v_night_roomOf v_night_handOf v_night_awake v_inn_house_how v_night_how v_night_passed).bind (un11 fun (v_night_been_35 : Int32) (v_night_thingIn_35 : Nat → Int32) (v_night_full_35 : Nat → Int32) (v_night_heardBy_35 : Nat → Int64) (v_night_dreamOf_35 : Nat → Int32) (v_night_stateOf_35 : Nat → Int32) (v_night_roomOf_35 : Nat → Int32) (v_night_handOf_35 : Nat → Int32) (v_night_awake_35 : Nat → Int32) (v_night_how_35 : Nat → Int32) (v_night_passed_35 : Nat → Int32) => (fX10_agree N).bind (un2 fun (r_39 : Int32) (v_refusal_39 : Int32) => zg r_39 (some (r_39, v_refusal_39, v_night_setting_23, v_night_been_35, v_night_ways_rooms_23, v_night_ways_steps_23, v_night_thingIn_35, v_night_full_35, v_night_heardBy_35, v_night_dreamOf_35, v_night_stateOf_35, v_night_roomOf_35, v_night_handOf_35, v_night_awake_35, v_night_how_35, v_night_passed_35))))))
set_option maxHeartbeats 4000000 in
set_option maxRecDepth 100000 in
theorem ctX10_nightfall (l : Launch) (E : EN) (h h_reader h_inn h_chosen h_night h_marks h_notes h_casts h_inn_house h_inn_thingIn h_inn_full h_inn_states h_inn_bed h_inn_dreamOf h_inn_listensIn h_inn_house_creak h_inn_house_cold h_inn_house_one h_inn_house_other h_inn_house_how h_inn_house_falls h_inn_house_ways h_night_ways h_night_how h_night_passed h_night_dreamOf h_night_stateOf h_night_roomOf h_night_handOf h_night_awake h_night_thingIn h_night_full h_night_heardBy h_night_ways_steps : Nat) (v_marked : Int32) (v_refusal : Int32) (v_latestFault : Int32) (v_faultPlace : Int32) (v_inn_minutes : Int32) (v_inn_things : Int32) (v_inn_dreams : Int32) (v_inn_sleepers : Int32) (v_inn_listeners : Int32) (v_inn_house_rooms : Int32) (v_inn_house_doors : Int32) (v_night_setting : Int32) (v_night_been : Int32) (v_inn_house_how : Nat → Int32) (v_night_ways_rooms : Int32) (v_night_ways_steps : Nat → Int32) (v_inn_house_one : Nat → Int32) (v_inn_house_other : Nat → Int32) (v_inn_thingIn : Nat → Int32) (v_night_thingIn : Nat → Int32) (v_inn_full : Nat → Int32) (v_night_full : Nat → Int32) (v_night_heardBy : Nat → Int64) (v_chosen : Nat → Int32) (v_night_dreamOf : Nat → Int32) (v_night_stateOf : Nat → Int32) (v_inn_bed : Nat → Int32) (v_night_roomOf : Nat → Int32) (v_night_handOf : Nat → Int32) (v_night_awake : Nat → Int32) (v_night_how : Nat → Int32) (v_night_passed : Nat → Int32) (N : Nat) (p0 : Int32) (z0 : Int32) (z1 : Int32) (z2 : Int32) (z3 : Int32) (z4 : Int32) (z5 : Nat → Int32) (z6 : Nat → Int32) (z7 : Nat → Int32) (z8 : Nat → Int64) (z9 : Nat → Int32) (z10 : Nat → Int32) (z11 : Nat → Int32) (z12 : Nat → Int32) (z13 : Nat → Int32) (z14 : Nat → Int32) (z15 : Nat → Int32) (hf : fX10_nightfall N p0 v_inn_minutes v_inn_sleepers v_inn_house_rooms v_inn_house_doors v_night_setting v_night_been v_inn_house_how v_night_ways_rooms v_night_ways_steps v_inn_house_one v_inn_house_other v_inn_thingIn v_night_thingIn v_inn_full v_night_full v_night_heardBy v_chosen v_night_dreamOf v_night_stateOf v_inn_bed v_night_roomOf v_night_handOf v_night_awake v_night_how v_night_passed = some (z0, z1, z2, z3, z4, z5, z6, z7, z8, z9, z10, z11, z12, z13, z14, z15)) : CTi l E yX10_nightfall cX10_nightfall 2 .boolean 4 93 [.ref h, .int p0] (wX10_nightfall E h h_reader h_inn h_chosen h_night h_marks h_notes h_casts h_inn_house h_inn_thingIn h_inn_full h_inn_states h_inn_bed h_inn_dreamOf h_inn_listensIn h_inn_house_creak h_inn_house_cold h_inn_house_one h_inn_house_other h_inn_house_how h_inn_house_falls h_inn_house_ways h_night_ways h_night_how h_night_passed h_night_dreamOf h_night_stateOf h_night_roomOf h_night_handOf h_night_awake h_night_thingIn h_night_full h_night_heardBy h_night_ways_steps v_marked v_refusal v_latestFault v_faultPlace v_inn_minutes v_inn_things v_inn_dreams v_inn_sleepers v_inn_listeners v_inn_house_rooms v_inn_house_doors v_night_setting v_night_been v_inn_house_how v_night_ways_rooms v_night_ways_steps v_inn_house_one v_inn_house_other v_inn_thingIn v_night_thingIn v_inn_full v_night_full v_night_heardBy v_chosen v_night_dreamOf v_night_stateOf v_inn_bed v_night_roomOf v_night_handOf v_night_awake v_night_how v_night_passed) z0 (wX10_nightfall E h h_reader h_inn h_chosen h_night h_marks h_notes h_casts h_inn_house h_inn_thingIn h_inn_full h_inn_states h_inn_bed h_inn_dreamOf h_inn_listensIn h_inn_house_creak h_inn_house_cold h_inn_house_one h_inn_house_other h_inn_house_how h_inn_house_falls h_inn_house_ways h_night_ways h_night_how h_night_passed h_night_dreamOf h_night_stateOf h_night_roomOf h_night_handOf h_night_awake h_night_thingIn h_night_full h_night_heardBy h_night_ways_steps v_marked z1 v_latestFault v_faultPlace v_inn_minutes v_inn_things v_inn_dreams v_inn_sleepers v_inn_listeners v_inn_house_rooms v_inn_house_doors z2 z3 v_inn_house_how z4 z5 v_inn_house_one v_inn_house_other v_inn_thingIn z6 v_inn_full z7 z8 v_chosen z9 z10 v_inn_bed z11 z12 z13 z14 z15) := by
  intro sz
  refine ct_body (by decide) (Nat.le_of_ble_eq_true rfl) ?_
  intro p e s m args below meth c A ls hAe C hr hin hP hD hS hl
  have C : CX p s m args meth c cX10_nightfall RX10 2 E A := C
  have hl : lv_has ls 2 [(0, .ref h), (1, .int p0)] := hl
  have hx := C.1
  have hb := C.2.1
  rw [hAe]
  clear hAe
  obtain ⟨Q, hQ⟩ : ∃ Q, Q = MQ below (Qi E A z0 (wX10_nightfall E h h_reader h_inn h_chosen h_night h_marks h_notes h_casts h_inn_house h_inn_thingIn h_inn_full h_inn_states h_inn_bed h_inn_dreamOf h_inn_listensIn h_inn_house_creak h_inn_house_cold h_inn_house_one h_inn_house_other h_inn_house_how h_inn_house_falls h_inn_house_ways h_night_ways h_night_how h_night_passed h_night_dreamOf h_night_stateOf h_night_roomOf h_night_handOf h_night_awake h_night_thingIn h_night_full h_night_heardBy h_night_ways_steps v_marked z1 v_latestFault v_faultPlace v_inn_minutes v_inn_things v_inn_dreams v_inn_sleepers v_inn_listeners v_inn_house_rooms v_inn_house_doors z2 z3 v_inn_house_how z4 z5 v_inn_house_one v_inn_house_other v_inn_thingIn z6 v_inn_full z7 z8 v_chosen z9 z10 v_inn_bed z11 z12 z13 z14 z15)) args s 0 0 A := ⟨_, rfl⟩
  rw [← hQ]
  unfold fX10_nightfall at hf
  refine lv_aload_n hx hb dX10_nightfall_0 rfl (lv_at hl 0 rfl) ?_
  refine lv_iload_n hx hb dX10_nightfall_1 rfl (lv_at hl 1 rfl) ?_
  obtain ⟨r_2, hc_2, hf⟩ := bd1 hf
  refine r_callVi (ws' := (wX10_nightfall E h h_reader h_inn h_chosen h_night h_marks h_notes h_casts h_inn_house h_inn_thingIn h_inn_full h_inn_states h_inn_bed h_inn_dreamOf h_inn_listensIn h_inn_house_creak h_inn_house_cold h_inn_house_one h_inn_house_other h_inn_house_how h_inn_house_falls h_inn_house_ways h_night_ways h_night_how h_night_passed h_night_dreamOf h_night_stateOf h_night_roomOf h_night_handOf h_night_awake h_night_thingIn h_night_full h_night_heardBy h_night_ways_steps v_marked v_refusal v_latestFault v_faultPlace v_inn_minutes v_inn_things v_inn_dreams v_inn_sleepers v_inn_listeners v_inn_house_rooms v_inn_house_doors v_night_setting v_night_been v_inn_house_how v_night_ways_rooms v_night_ways_steps v_inn_house_one v_inn_house_other v_inn_thingIn v_night_thingIn v_inn_full v_night_full v_night_heardBy v_chosen v_night_dreamOf v_night_stateOf v_inn_bed v_night_roomOf v_night_handOf v_night_awake v_night_how v_night_passed)) (As := [.int p0]) (rest := []) C (ctX10_isSetting l E h h_reader h_inn h_chosen h_night h_marks h_notes h_casts h_inn_house h_inn_thingIn h_inn_full h_inn_states h_inn_bed h_inn_dreamOf h_inn_listensIn h_inn_house_creak h_inn_house_cold h_inn_house_one h_inn_house_other h_inn_house_how h_inn_house_falls h_inn_house_ways v_marked v_refusal v_latestFault v_faultPlace v_inn_minutes v_inn_things v_inn_dreams v_inn_sleepers v_inn_listeners v_inn_house_rooms v_inn_house_doors N p0 r_2 hc_2) ml_X10_149 ⟨Nat.le_of_ble_eq_true rfl, Nat.le_of_ble_eq_true rfl⟩ hP hD hS 0 rfl rfl rfl [0, 1, 2] rfl rfl rfl rfl rfl hl.1 rfl (Nat.le_of_ble_eq_true rfl) ⟨Nat.zero_le _, Nat.zero_le _⟩ dX10_nightfall_2 ?_
  clear hP hD hS; intro H locs hP hD hS
  refine lv_if_ne (tgt := 14) hx hb dX10_nightfall_5 (by decide) (fun c_5 => ?_) (fun c_5 => ?_)
  · replace hf := it_f c_5 hf
    refine lv_aload_n hx hb dX10_nightfall_14 rfl (lv_at hl 0 rfl) ?_
    refine r_get C hP 0 rfl fl_X10_32 rfl dX10_nightfall_15 ?_
    refine lv_aload_n hx hb dX10_nightfall_18 rfl (lv_at hl 0 rfl) ?_
    refine r_get C hP 0 rfl fl_X10_19 rfl dX10_nightfall_19 ?_
    refine lv_iload_n hx hb dX10_nightfall_22 rfl (lv_at hl 1 rfl) ?_
    obtain ⟨v_night_setting_23, v_night_ways_rooms_23, v_night_ways_steps_23, hc_23, hf⟩ := bd3 hf
    refine r_callVv (ws' := (wX10_nightfall E h h_reader h_inn h_chosen h_night h_marks h_notes h_casts h_inn_house h_inn_thingIn h_inn_full h_inn_states h_inn_bed h_inn_dreamOf h_inn_listensIn h_inn_house_creak h_inn_house_cold h_inn_house_one h_inn_house_other h_inn_house_how h_inn_house_falls h_inn_house_ways h_night_ways h_night_how h_night_passed h_night_dreamOf h_night_stateOf h_night_roomOf h_night_handOf h_night_awake h_night_thingIn h_night_full h_night_heardBy h_night_ways_steps v_marked v_refusal v_latestFault v_faultPlace v_inn_minutes v_inn_things v_inn_dreams v_inn_sleepers v_inn_listeners v_inn_house_rooms v_inn_house_doors v_night_setting_23 v_night_been v_inn_house_how v_night_ways_rooms_23 v_night_ways_steps_23 v_inn_house_one v_inn_house_other v_inn_thingIn v_night_thingIn v_inn_full v_night_full v_night_heardBy v_chosen v_night_dreamOf v_night_stateOf v_inn_bed v_night_roomOf v_night_handOf v_night_awake v_night_how v_night_passed)) (As := [.ref h_inn, .int p0]) (rest := []) C (ctX4_prepare l E h_night h_night_ways h_night_how h_night_passed h_night_dreamOf h_night_stateOf h_night_roomOf h_night_handOf h_night_awake h_night_thingIn h_night_full h_night_heardBy h_inn h_inn_house h_inn_thingIn h_inn_full h_inn_states h_inn_bed h_inn_dreamOf h_inn_listensIn h_inn_house_creak h_inn_house_cold h_inn_house_one h_inn_house_other h_inn_house_how h_inn_house_falls h_inn_house_ways h_night_ways_steps (some h_inn) v_night_setting v_night_been v_inn_minutes v_inn_things v_inn_dreams v_inn_sleepers v_inn_listeners v_inn_house_rooms v_inn_house_doors v_inn_house_how v_night_ways_rooms v_night_ways_steps v_inn_house_one v_inn_house_other N p0 v_night_setting_23 v_night_ways_rooms_23 v_night_ways_steps_23 hc_23) ml_X10_155 ⟨Nat.le_of_ble_eq_true rfl, Nat.le_of_ble_eq_true rfl⟩ hP hD hS 3 rfl rfl rfl [3, 1, 2, 4, 5, 6, 7, 8] rfl rfl rfl rfl rfl hl.1 rfl (Nat.le_of_ble_eq_true rfl) ⟨Nat.zero_le _, Nat.zero_le _⟩ dX10_nightfall_23 ?_
    clear hP hD hS; intro H locs hP hD hS
    refine lv_aload_n hx hb dX10_nightfall_26 rfl (lv_at hl 0 rfl) ?_
    refine r_get C hP 0 rfl fl_X10_32 rfl dX10_nightfall_27 ?_
    refine lv_aload_n hx hb dX10_nightfall_30 rfl (lv_at hl 0 rfl) ?_
    refine r_get C hP 0 rfl fl_X10_23 rfl dX10_nightfall_31 ?_
    refine lv_iconst (v := 0) hx hb dX10_nightfall_34 (by decide) ?_
    obtain ⟨v_night_been_35, v_night_thingIn_35, v_night_full_35, v_night_heardBy_35, v_night_dreamOf_35, v_night_stateOf_35, v_night_roomOf_35, v_night_handOf_35, v_night_awake_35, v_night_how_35, v_night_passed_35, hc_35, hf⟩ := bd11 hf
    refine r_callVv (ws' := (wX10_nightfall E h h_reader h_inn h_chosen h_night h_marks h_notes h_casts h_inn_house h_inn_thingIn h_inn_full h_inn_states h_inn_bed h_inn_dreamOf h_inn_listensIn h_inn_house_creak h_inn_house_cold h_inn_house_one h_inn_house_other h_inn_house_how h_inn_house_falls h_inn_house_ways h_night_ways h_night_how h_night_passed h_night_dreamOf h_night_stateOf h_night_roomOf h_night_handOf h_night_awake h_night_thingIn h_night_full h_night_heardBy h_night_ways_steps v_marked v_refusal v_latestFault v_faultPlace v_inn_minutes v_inn_things v_inn_dreams v_inn_sleepers v_inn_listeners v_inn_house_rooms v_inn_house_doors v_night_setting_23 v_night_been_35 v_inn_house_how v_night_ways_rooms_23 v_night_ways_steps_23 v_inn_house_one v_inn_house_other v_inn_thingIn v_night_thingIn_35 v_inn_full v_night_full_35 v_night_heardBy_35 v_chosen v_night_dreamOf_35 v_night_stateOf_35 v_inn_bed v_night_roomOf_35 v_night_handOf_35 v_night_awake_35 v_night_how_35 v_night_passed_35)) (As := [.ref h_chosen, .int 0]) (rest := []) C (ctX4_begin l E h_night h_inn h_night_ways h_night_how h_night_passed h_night_dreamOf h_night_stateOf h_night_roomOf h_night_handOf h_night_awake h_night_thingIn h_night_full h_night_heardBy h_inn_house h_inn_thingIn h_inn_full h_inn_states h_inn_bed h_inn_dreamOf h_inn_listensIn h_inn_house_creak h_inn_house_cold h_inn_house_one h_inn_house_other h_inn_house_how h_inn_house_falls h_inn_house_ways h_chosen v_night_setting_23 v_night_been v_inn_minutes v_inn_things v_inn_dreams v_inn_sleepers v_inn_listeners v_inn_house_rooms v_inn_house_doors v_inn_thingIn v_night_thingIn v_inn_full v_night_full v_night_heardBy v_chosen v_night_dreamOf v_night_stateOf v_inn_bed v_night_roomOf v_night_handOf v_night_awake v_inn_house_how v_night_how v_night_passed N 0 v_night_been_35 v_night_thingIn_35 v_night_full_35 v_night_heardBy_35 v_night_dreamOf_35 v_night_stateOf_35 v_night_roomOf_35 v_night_handOf_35 v_night_awake_35 v_night_how_35 v_night_passed_35 hc_35) ml_X10_159 ⟨Nat.le_of_ble_eq_true rfl, Nat.le_of_ble_eq_true rfl⟩ hP hD hS 3 rfl rfl rfl [3, 1, 2, 9, 10, 11, 12, 13, 14, 15, 16, 17, 18, 19, 20, 4, 21, 22] rfl rfl rfl rfl rfl hl.1 rfl (Nat.le_of_ble_eq_true rfl) ⟨Nat.zero_le _, Nat.zero_le _⟩ dX10_nightfall_35 ?_
    clear hP hD hS; intro H locs hP hD hS
    refine lv_aload_n hx hb dX10_nightfall_38 rfl (lv_at hl 0 rfl) ?_
    obtain ⟨r_39, v_refusal_39, hc_39, hf⟩ := bd2 hf
    refine r_callVi (ws' := (wX10_nightfall E h h_reader h_inn h_chosen h_night h_marks h_notes h_casts h_inn_house h_inn_thingIn h_inn_full h_inn_states h_inn_bed h_inn_dreamOf h_inn_listensIn h_inn_house_creak h_inn_house_cold h_inn_house_one h_inn_house_other h_inn_house_how h_inn_house_falls h_inn_house_ways h_night_ways h_night_how h_night_passed h_night_dreamOf h_night_stateOf h_night_roomOf h_night_handOf h_night_awake h_night_thingIn h_night_full h_night_heardBy h_night_ways_steps v_marked v_refusal_39 v_latestFault v_faultPlace v_inn_minutes v_inn_things v_inn_dreams v_inn_sleepers v_inn_listeners v_inn_house_rooms v_inn_house_doors v_night_setting_23 v_night_been_35 v_inn_house_how v_night_ways_rooms_23 v_night_ways_steps_23 v_inn_house_one v_inn_house_other v_inn_thingIn v_night_thingIn_35 v_inn_full v_night_full_35 v_night_heardBy_35 v_chosen v_night_dreamOf_35 v_night_stateOf_35 v_inn_bed v_night_roomOf_35 v_night_handOf_35 v_night_awake_35 v_night_how_35 v_night_passed_35)) (As := []) (rest := []) C (ctX10_agree l E h h_reader h_inn h_chosen h_night h_marks h_notes h_casts v_marked v_refusal v_latestFault v_faultPlace N r_39 v_refusal_39 hc_39) ml_X10_163 ⟨Nat.le_of_ble_eq_true rfl, Nat.le_of_ble_eq_true rfl⟩ hP hD hS 0 rfl rfl rfl [0] rfl rfl rfl rfl rfl hl.1 rfl (Nat.le_of_ble_eq_true rfl) ⟨Nat.zero_le _, Nat.zero_le _⟩ dX10_nightfall_39 ?_
    clear hP hD hS; intro H locs hP hD hS
    obtain ⟨hz_42, hf⟩ := zg_s hf
    cases hf
    rw [hQ]
    exact r_zret C hr hP hD hS hz_42 rfl dX10_nightfall_42
  · replace hf := it_t c_5 hf
    refine lv_aload_n hx hb dX10_nightfall_8 rfl (lv_at hl 0 rfl) ?_
    refine lv_iconst (v := 1) hx hb dX10_nightfall_9 (by decide) ?_
    obtain ⟨r_10, v_refusal_10, hc_10, hf⟩ := bd2 hf
    refine r_callVi (ws' := (wX10_nightfall E h h_reader h_inn h_chosen h_night h_marks h_notes h_casts h_inn_house h_inn_thingIn h_inn_full h_inn_states h_inn_bed h_inn_dreamOf h_inn_listensIn h_inn_house_creak h_inn_house_cold h_inn_house_one h_inn_house_other h_inn_house_how h_inn_house_falls h_inn_house_ways h_night_ways h_night_how h_night_passed h_night_dreamOf h_night_stateOf h_night_roomOf h_night_handOf h_night_awake h_night_thingIn h_night_full h_night_heardBy h_night_ways_steps v_marked v_refusal_10 v_latestFault v_faultPlace v_inn_minutes v_inn_things v_inn_dreams v_inn_sleepers v_inn_listeners v_inn_house_rooms v_inn_house_doors v_night_setting v_night_been v_inn_house_how v_night_ways_rooms v_night_ways_steps v_inn_house_one v_inn_house_other v_inn_thingIn v_night_thingIn v_inn_full v_night_full v_night_heardBy v_chosen v_night_dreamOf v_night_stateOf v_inn_bed v_night_roomOf v_night_handOf v_night_awake v_night_how v_night_passed)) (As := [.int 1]) (rest := []) C (ctX10_deny l E h h_reader h_inn h_chosen h_night h_marks h_notes h_casts v_marked v_refusal v_latestFault v_faultPlace N 1 r_10 v_refusal_10 hc_10) ml_X10_152 ⟨Nat.le_of_ble_eq_true rfl, Nat.le_of_ble_eq_true rfl⟩ hP hD hS 0 rfl rfl rfl [0] rfl rfl rfl rfl rfl hl.1 rfl (Nat.le_of_ble_eq_true rfl) ⟨Nat.zero_le _, Nat.zero_le _⟩ dX10_nightfall_10 ?_
    clear hP hD hS; intro H locs hP hD hS
    obtain ⟨hz_13, hf⟩ := zg_s hf
    cases hf
    rw [hQ]
    exact r_zret C hr hP hD hS hz_13 rfl dX10_nightfall_13
def wX10_isSleeper (E : EN) (h h_reader h_inn h_chosen h_night h_marks h_notes h_casts h_inn_house h_inn_thingIn h_inn_full h_inn_states h_inn_bed h_inn_dreamOf h_inn_listensIn : Nat) (v_marked : Int32) (v_refusal : Int32) (v_latestFault : Int32) (v_faultPlace : Int32) (v_inn_minutes : Int32) (v_inn_things : Int32) (v_inn_dreams : Int32) (v_inn_sleepers : Int32) (v_inn_listeners : Int32) : va_W := [(h, .inr (9, [.ref h_reader, .ref h_inn, .ref h_chosen, .ref h_night, .ref h_marks, .int v_marked, .ref h_notes, .ref h_casts, .int v_refusal, .int v_latestFault, .int v_faultPlace])), (h_inn, .inr (2, [.ref h_inn_house, .int v_inn_minutes, .int v_inn_things, .ref h_inn_thingIn, .ref h_inn_full, .int v_inn_dreams, .ref h_inn_states, .int v_inn_sleepers, .ref h_inn_bed, .ref h_inn_dreamOf, .int v_inn_listeners, .ref h_inn_listensIn]))]
def fX10_isSleeper (N : Nat) (p0 : Int32) (v_inn_sleepers : Int32) : Option Int32 := (fX10_isBelow N p0 v_inn_sleepers).bind (un1 fun (r_8 : Int32) => zg r_8 (some r_8))
set_option maxHeartbeats 4000000 in
set_option maxRecDepth 100000 in
theorem ctX10_isSleeper (l : Launch) (E : EN) (h h_reader h_inn h_chosen h_night h_marks h_notes h_casts h_inn_house h_inn_thingIn h_inn_full h_inn_states h_inn_bed h_inn_dreamOf h_inn_listensIn : Nat) (v_marked : Int32) (v_refusal : Int32) (v_latestFault : Int32) (v_faultPlace : Int32) (v_inn_minutes : Int32) (v_inn_things : Int32) (v_inn_dreams : Int32) (v_inn_sleepers : Int32) (v_inn_listeners : Int32) (N : Nat) (p0 : Int32) (z0 : Int32) (hf : fX10_isSleeper N p0 v_inn_sleepers = some z0) : CTi l E yX10_isSleeper cX10_isSleeper 2 .boolean 1 21 [.ref h, .int p0] (wX10_isSleeper E h h_reader h_inn h_chosen h_night h_marks h_notes h_casts h_inn_house h_inn_thingIn h_inn_full h_inn_states h_inn_bed h_inn_dreamOf h_inn_listensIn v_marked v_refusal v_latestFault v_faultPlace v_inn_minutes v_inn_things v_inn_dreams v_inn_sleepers v_inn_listeners) z0 (wX10_isSleeper E h h_reader h_inn h_chosen h_night h_marks h_notes h_casts h_inn_house h_inn_thingIn h_inn_full h_inn_states h_inn_bed h_inn_dreamOf h_inn_listensIn v_marked v_refusal v_latestFault v_faultPlace v_inn_minutes v_inn_things v_inn_dreams v_inn_sleepers v_inn_listeners) := by
  intro sz
  refine ct_body (by decide) (Nat.le_of_ble_eq_true rfl) ?_
  intro p e s m args below meth c A ls hAe C hr hin hP hD hS hl
  have C : CX p s m args meth c cX10_isSleeper RX10 2 E A := C
  have hl : lv_has ls 2 [(0, .ref h), (1, .int p0)] := hl
  have hx := C.1
  have hb := C.2.1
  rw [hAe]
  clear hAe
  obtain ⟨Q, hQ⟩ : ∃ Q, Q = MQ below (Qi E A z0 (wX10_isSleeper E h h_reader h_inn h_chosen h_night h_marks h_notes h_casts h_inn_house h_inn_thingIn h_inn_full h_inn_states h_inn_bed h_inn_dreamOf h_inn_listensIn v_marked v_refusal v_latestFault v_faultPlace v_inn_minutes v_inn_things v_inn_dreams v_inn_sleepers v_inn_listeners)) args s 0 0 A := ⟨_, rfl⟩
  rw [← hQ]
  unfold fX10_isSleeper at hf
  refine lv_iload_n hx hb dX10_isSleeper_0 rfl (lv_at hl 1 rfl) ?_
  refine lv_aload_n hx hb dX10_isSleeper_1 rfl (lv_at hl 0 rfl) ?_
  refine r_get C hP 0 rfl fl_X10_19 rfl dX10_isSleeper_2 ?_
  refine r_get C hP 1 rfl fl_X10_92 rfl dX10_isSleeper_5 ?_
  obtain ⟨r_8, hc_8, hf⟩ := bd1 hf
  refine r_callSi (ws' := (wX10_isSleeper E h h_reader h_inn h_chosen h_night h_marks h_notes h_casts h_inn_house h_inn_thingIn h_inn_full h_inn_states h_inn_bed h_inn_dreamOf h_inn_listensIn v_marked v_refusal v_latestFault v_faultPlace v_inn_minutes v_inn_things v_inn_dreams v_inn_sleepers v_inn_listeners)) (As := [.int p0, .int v_inn_sleepers]) (rest := []) C (ctX10_isBelow l E N p0 v_inn_sleepers r_8 hc_8) ml_X10_121 ⟨Nat.le_of_ble_eq_true rfl, Nat.le_of_ble_eq_true rfl⟩ hP hD hS [] rfl rfl rfl rfl rfl hl.1 rfl (Nat.le_of_ble_eq_true rfl) ⟨Nat.zero_le _, Nat.zero_le _⟩ dX10_isSleeper_8 ?_
  clear hP hD hS; intro H locs hP hD hS
  obtain ⟨hz_11, hf⟩ := zg_s hf
  cases hf
  rw [hQ]
  exact r_zret C hr hP hD hS hz_11 rfl dX10_isSleeper_11
def wX10_dreams (E : EN) (h h_reader h_inn h_chosen h_night h_marks h_notes h_casts h_inn_house h_inn_thingIn h_inn_full h_inn_states h_inn_bed h_inn_dreamOf h_inn_listensIn : Nat) (v_marked : Int32) (v_refusal : Int32) (v_latestFault : Int32) (v_faultPlace : Int32) (v_inn_minutes : Int32) (v_inn_things : Int32) (v_inn_dreams : Int32) (v_inn_sleepers : Int32) (v_inn_listeners : Int32) (v_chosen : Nat → Int32) : va_W := [(h, .inr (9, [.ref h_reader, .ref h_inn, .ref h_chosen, .ref h_night, .ref h_marks, .int v_marked, .ref h_notes, .ref h_casts, .int v_refusal, .int v_latestFault, .int v_faultPlace])), (h_inn, .inr (2, [.ref h_inn_house, .int v_inn_minutes, .int v_inn_things, .ref h_inn_thingIn, .ref h_inn_full, .int v_inn_dreams, .ref h_inn_states, .int v_inn_sleepers, .ref h_inn_bed, .ref h_inn_dreamOf, .int v_inn_listeners, .ref h_inn_listensIn])), (h_chosen, aI E 3 v_chosen)]
def fX10_dreams (N : Nat) (p0 : Int32) (p1 : Int32) (v_inn_dreams : Int32) (v_inn_sleepers : Int32) (v_chosen : Nat → Int32) : Option (Int32 × Int32 × (Nat → Int32)) := (fX10_isSleeper N p0 v_inn_sleepers).bind (un1 fun (r_2 : Int32) => if r_2 = 0 then ((fX10_deny N 1).bind (un2 fun (r_24 : Int32) (v_refusal_24 : Int32) => zg r_24 (some (r_24, v_refusal_24, v_chosen))) else ((fX10_isBelow N p1 v_inn_dreams).bind (un1 fun (r_16 : Int32) => if r_16 = 0 then ((fX10_deny N 1).bind (un2 fun (r_24 : Int32) (v_refusal_24 : Int32) => zg r_24 (some (r_24, v_refusal_24, v_chosen))) else (gd p0 3 ((fX10_agree N).bind (un2 fun (r_36 : Int32) (v_refusal_36 : Int32) => zg r_36 (some (r_36, v_refusal_36, upd v_chosen p0.toNatClampNeg p1)))))))
set_option maxHeartbeats 4000000 in
set_option maxRecDepth 100000 in
theorem ctX10_dreams (l : Launch) (E : EN) (h h_reader h_inn h_chosen h_night h_marks h_notes h_casts h_inn_house h_inn_thingIn h_inn_full h_inn_states h_inn_bed h_inn_dreamOf h_inn_listensIn : Nat) (v_marked : Int32) (v_refusal : Int32) (v_latestFault : Int32) (v_faultPlace : Int32) (v_inn_minutes : Int32) (v_inn_things : Int32) (v_inn_dreams : Int32) (v_inn_sleepers : Int32) (v_inn_listeners : Int32) (v_chosen : Nat → Int32) (N : Nat) (p0 : Int32) (p1 : Int32) (z0 : Int32) (z1 : Int32) (z2 : Nat → Int32) (hf : fX10_dreams N p0 p1 v_inn_dreams v_inn_sleepers v_chosen = some (z0, z1, z2)) : CTi l E yX10_dreams cX10_dreams 3 .boolean 2 42 [.ref h, .int p0, .int p1] (wX10_dreams E h h_reader h_inn h_chosen h_night h_marks h_notes h_casts h_inn_house h_inn_thingIn h_inn_full h_inn_states h_inn_bed h_inn_dreamOf h_inn_listensIn v_marked v_refusal v_latestFault v_faultPlace v_inn_minutes v_inn_things v_inn_dreams v_inn_sleepers v_inn_listeners v_chosen) z0 (wX10_dreams E h h_reader h_inn h_chosen h_night h_marks h_notes h_casts h_inn_house h_inn_thingIn h_inn_full h_inn_states h_inn_bed h_inn_dreamOf h_inn_listensIn v_marked z1 v_latestFault v_faultPlace v_inn_minutes v_inn_things v_inn_dreams v_inn_sleepers v_inn_listeners z2) := by
  intro sz
  refine ct_body (by decide) (Nat.le_of_ble_eq_true rfl) ?_
  intro p e s m args below meth c A ls hAe C hr hin hP hD hS hl
  have C : CX p s m args meth c cX10_dreams RX10 3 E A := C
  have hl : lv_has ls 3 [(0, .ref h), (1, .int p0), (2, .int p1)] := hl
  have hx := C.1
  have hb := C.2.1
  rw [hAe]
  clear hAe
  obtain ⟨Q, hQ⟩ : ∃ Q, Q = MQ below (Qi E A z0 (wX10_dreams E h h_reader h_inn h_chosen h_night h_marks h_notes h_casts h_inn_house h_inn_thingIn h_inn_full h_inn_states h_inn_bed h_inn_dreamOf h_inn_listensIn v_marked z1 v_latestFault v_faultPlace v_inn_minutes v_inn_things v_inn_dreams v_inn_sleepers v_inn_listeners z2)) args s 0 0 A := ⟨_, rfl⟩
  rw [← hQ]
  unfold fX10_dreams at hf
  refine lv_aload_n hx hb dX10_dreams_0 rfl (lv_at hl 0 rfl) ?_
  refine lv_iload_n hx hb dX10_dreams_1 rfl (lv_at hl 1 rfl) ?_
  obtain ⟨r_2, hc_2, hf⟩ := bd1 hf
  refine r_callVi (ws' := (wX10_dreams E h h_reader h_inn h_chosen h_night h_marks h_notes h_casts h_inn_house h_inn_thingIn h_inn_full h_inn_states h_inn_bed h_inn_dreamOf h_inn_listensIn v_marked v_refusal v_latestFault v_faultPlace v_inn_minutes v_inn_things v_inn_dreams v_inn_sleepers v_inn_listeners v_chosen)) (As := [.int p0]) (rest := []) C (ctX10_isSleeper l E h h_reader h_inn h_chosen h_night h_marks h_notes h_casts h_inn_house h_inn_thingIn h_inn_full h_inn_states h_inn_bed h_inn_dreamOf h_inn_listensIn v_marked v_refusal v_latestFault v_faultPlace v_inn_minutes v_inn_things v_inn_dreams v_inn_sleepers v_inn_listeners N p0 r_2 hc_2) ml_X10_167 ⟨Nat.le_of_ble_eq_true rfl, Nat.le_of_ble_eq_true rfl⟩ hP hD hS 0 rfl rfl rfl [0, 1] rfl rfl rfl rfl rfl hl.1 rfl (Nat.le_of_ble_eq_true rfl) ⟨Nat.zero_le _, Nat.zero_le _⟩ dX10_dreams_2 ?_
  clear hP hD hS; intro H locs hP hD hS
  refine lv_if_eq (tgt := 22) hx hb dX10_dreams_5 (by decide) (fun c_5 => ?_) (fun c_5 => ?_)
  · replace hf := it_t c_5 hf
    refine lv_aload_n hx hb dX10_dreams_22 rfl (lv_at hl 0 rfl) ?_
    refine lv_iconst (v := 1) hx hb dX10_dreams_23 (by decide) ?_
    obtain ⟨r_24, v_refusal_24, hc_24, hf⟩ := bd2 hf
    refine r_callVi (ws' := (wX10_dreams E h h_reader h_inn h_chosen h_night h_marks h_notes h_casts h_inn_house h_inn_thingIn h_inn_full h_inn_states h_inn_bed h_inn_dreamOf h_inn_listensIn v_marked v_refusal_24 v_latestFault v_faultPlace v_inn_minutes v_inn_things v_inn_dreams v_inn_sleepers v_inn_listeners v_chosen)) (As := [.int 1]) (rest := []) C (ctX10_deny l E h h_reader h_inn h_chosen h_night h_marks h_notes h_casts v_marked v_refusal v_latestFault v_faultPlace N 1 r_24 v_refusal_24 hc_24) ml_X10_152 ⟨Nat.le_of_ble_eq_true rfl, Nat.le_of_ble_eq_true rfl⟩ hP hD hS 0 rfl rfl rfl [0] rfl rfl rfl rfl rfl hl.1 rfl (Nat.le_of_ble_eq_true rfl) ⟨Nat.zero_le _, Nat.zero_le _⟩ dX10_dreams_24 ?_
    clear hP hD hS; intro H locs hP hD hS
    obtain ⟨hz_27, hf⟩ := zg_s hf
    cases hf
    rw [hQ]
    exact r_zret C hr hP hD hS hz_27 rfl dX10_dreams_27
  · replace hf := it_f c_5 hf
    refine lv_iload_n hx hb dX10_dreams_8 rfl (lv_at hl 2 rfl) ?_
    refine lv_aload_n hx hb dX10_dreams_9 rfl (lv_at hl 0 rfl) ?_
    refine r_get C hP 0 rfl fl_X10_19 rfl dX10_dreams_10 ?_
    refine r_get C hP 1 rfl fl_X10_139 rfl dX10_dreams_13 ?_
    obtain ⟨r_16, hc_16, hf⟩ := bd1 hf
    refine r_callSi (ws' := (wX10_dreams E h h_reader h_inn h_chosen h_night h_marks h_notes h_casts h_inn_house h_inn_thingIn h_inn_full h_inn_states h_inn_bed h_inn_dreamOf h_inn_listensIn v_marked v_refusal v_latestFault v_faultPlace v_inn_minutes v_inn_things v_inn_dreams v_inn_sleepers v_inn_listeners v_chosen)) (As := [.int p1, .int v_inn_dreams]) (rest := []) C (ctX10_isBelow l E N p1 v_inn_dreams r_16 hc_16) ml_X10_121 ⟨Nat.le_of_ble_eq_true rfl, Nat.le_of_ble_eq_true rfl⟩ hP hD hS [] rfl rfl rfl rfl rfl hl.1 rfl (Nat.le_of_ble_eq_true rfl) ⟨Nat.zero_le _, Nat.zero_le _⟩ dX10_dreams_16 ?_
    clear hP hD hS; intro H locs hP hD hS
    refine lv_if_ne (tgt := 28) hx hb dX10_dreams_19 (by decide) (fun c_19 => ?_) (fun c_19 => ?_)
    · replace hf := it_f c_19 hf
      refine lv_aload_n hx hb dX10_dreams_28 rfl (lv_at hl 0 rfl) ?_
      refine r_get C hP 0 rfl fl_X10_23 rfl dX10_dreams_29 ?_
      refine lv_iload_n hx hb dX10_dreams_32 rfl (lv_at hl 1 rfl) ?_
      refine lv_iload_n hx hb dX10_dreams_33 rfl (lv_at hl 2 rfl) ?_
      obtain ⟨hi_34, hf⟩ := gd_s hf
      refine r_iast (ws' := (wX10_dreams E h h_reader h_inn h_chosen h_night h_marks h_notes h_casts h_inn_house h_inn_thingIn h_inn_full h_inn_states h_inn_bed h_inn_dreamOf h_inn_listensIn v_marked v_refusal v_latestFault v_faultPlace v_inn_minutes v_inn_things v_inn_dreams v_inn_sleepers v_inn_listeners (upd v_chosen p0.toNatClampNeg p1))) C hP hD hS 2 rfl hi_34 rfl dX10_dreams_34 ?_
      clear hP hD hS; intro H locs hP hD hS
      refine lv_aload_n hx hb dX10_dreams_35 rfl (lv_at hl 0 rfl) ?_
      obtain ⟨r_36, v_refusal_36, hc_36, hf⟩ := bd2 hf
      refine r_callVi (ws' := (wX10_dreams E h h_reader h_inn h_chosen h_night h_marks h_notes h_casts h_inn_house h_inn_thingIn h_inn_full h_inn_states h_inn_bed h_inn_dreamOf h_inn_listensIn v_marked v_refusal_36 v_latestFault v_faultPlace v_inn_minutes v_inn_things v_inn_dreams v_inn_sleepers v_inn_listeners (upd v_chosen p0.toNatClampNeg p1))) (As := []) (rest := []) C (ctX10_agree l E h h_reader h_inn h_chosen h_night h_marks h_notes h_casts v_marked v_refusal v_latestFault v_faultPlace N r_36 v_refusal_36 hc_36) ml_X10_163 ⟨Nat.le_of_ble_eq_true rfl, Nat.le_of_ble_eq_true rfl⟩ hP hD hS 0 rfl rfl rfl [0] rfl rfl rfl rfl rfl hl.1 rfl (Nat.le_of_ble_eq_true rfl) ⟨Nat.zero_le _, Nat.zero_le _⟩ dX10_dreams_36 ?_
      clear hP hD hS; intro H locs hP hD hS
      obtain ⟨hz_39, hf⟩ := zg_s hf
      cases hf
      rw [hQ]
      exact r_zret C hr hP hD hS hz_39 rfl dX10_dreams_39
    · replace hf := it_t c_19 hf
      refine lv_aload_n hx hb dX10_dreams_22 rfl (lv_at hl 0 rfl) ?_
      refine lv_iconst (v := 1) hx hb dX10_dreams_23 (by decide) ?_
      obtain ⟨r_24, v_refusal_24, hc_24, hf⟩ := bd2 hf
      refine r_callVi (ws' := (wX10_dreams E h h_reader h_inn h_chosen h_night h_marks h_notes h_casts h_inn_house h_inn_thingIn h_inn_full h_inn_states h_inn_bed h_inn_dreamOf h_inn_listensIn v_marked v_refusal_24 v_latestFault v_faultPlace v_inn_minutes v_inn_things v_inn_dreams v_inn_sleepers v_inn_listeners v_chosen)) (As := [.int 1]) (rest := []) C (ctX10_deny l E h h_reader h_inn h_chosen h_night h_marks h_notes h_casts v_marked v_refusal v_latestFault v_faultPlace N 1 r_24 v_refusal_24 hc_24) ml_X10_152 ⟨Nat.le_of_ble_eq_true rfl, Nat.le_of_ble_eq_true rfl⟩ hP hD hS 0 rfl rfl rfl [0] rfl rfl rfl rfl rfl hl.1 rfl (Nat.le_of_ble_eq_true rfl) ⟨Nat.zero_le _, Nat.zero_le _⟩ dX10_dreams_24 ?_
      clear hP hD hS; intro H locs hP hD hS
      obtain ⟨hz_27, hf⟩ := zg_s hf
      cases hf
      rw [hQ]
      exact r_zret C hr hP hD hS hz_27 rfl dX10_dreams_27
def wX10_minutes (E : EN) (h h_reader h_inn h_chosen h_night h_marks h_notes h_casts h_inn_house h_inn_thingIn h_inn_full h_inn_states h_inn_bed h_inn_dreamOf h_inn_listensIn h_night_ways h_night_how h_night_passed h_night_dreamOf h_night_stateOf h_night_roomOf h_night_handOf h_night_awake h_night_thingIn h_night_full h_night_heardBy h_inn_house_creak h_inn_house_cold h_inn_house_one h_inn_house_other h_inn_house_how h_inn_house_falls h_inn_house_ways h_night_ways_steps h_inn_house_ways_steps : Nat) (v_marked : Int32) (v_refusal : Int32) (v_latestFault : Int32) (v_faultPlace : Int32) (v_inn_minutes : Int32) (v_inn_things : Int32) (v_inn_dreams : Int32) (v_inn_sleepers : Int32) (v_inn_listeners : Int32) (v_night_setting : Int32) (v_night_been : Int32) (v_night_awake : Nat → Int32) (v_night_dreamOf : Nat → Int32) (v_night_stateOf : Nat → Int32) (v_inn_states : Nat → Int32) (v_night_roomOf : Nat → Int32) (v_inn_house_rooms : Int32) (v_inn_house_doors : Int32) (v_inn_house_one : Nat → Int32) (v_inn_house_other : Nat → Int32) (v_night_how : Nat → Int32) (v_night_thingIn : Nat → Int32) (v_night_full : Nat → Int32) (v_night_handOf : Nat → Int32) (v_night_ways_rooms : Int32) (v_night_ways_steps : Nat → Int32) (v_inn_house_creak : Nat → Int32) (v_inn_listensIn : Nat → Int32) (v_inn_house_ways_rooms : Int32) (v_inn_house_ways_steps : Nat → Int32) (v_night_heardBy : Nat → Int64) (v_inn_house_cold : Nat → Int32) (v_inn_house_falls : Nat → Int32) (v_night_passed : Nat → Int32) : va_W := [(h, .inr (9, [.ref h_reader, .ref h_inn, .ref h_chosen, .ref h_night, .ref h_marks, .int v_marked, .ref h_notes, .ref h_casts, .int v_refusal, .int v_latestFault, .int v_faultPlace])), (h_inn, .inr (2, [.ref h_inn_house, .int v_inn_minutes, .int v_inn_things, .ref h_inn_thingIn, .ref h_inn_full, .int v_inn_dreams, .ref h_inn_states, .int v_inn_sleepers, .ref h_inn_bed, .ref h_inn_dreamOf, .int v_inn_listeners, .ref h_inn_listensIn])), (h_night, .inr (4, [.ref h_inn, .int v_night_setting, .int v_night_been, .ref h_night_ways, .ref h_night_how, .ref h_night_passed, .ref h_night_dreamOf, .ref h_night_stateOf, .ref h_night_roomOf, .ref h_night_handOf, .ref h_night_awake, .ref h_night_thingIn, .ref h_night_full, .ref h_night_heardBy])), (h_night_awake, aZ E 3 v_night_awake), (h_night_dreamOf, aI E 3 v_night_dreamOf), (h_night_stateOf, aI E 3 v_night_stateOf), (h_inn_states, aI E 64 v_inn_states), (h_night_roomOf, aI E 3 v_night_roomOf), (h_inn_house, .inr (1, [.int v_inn_house_rooms, .ref h_inn_house_creak, .ref h_inn_house_cold, .int v_inn_house_doors, .ref h_inn_house_one, .ref h_inn_house_other, .ref h_inn_house_how, .ref h_inn_house_falls, .ref h_inn_house_ways])), (h_inn_house_one, aI E 10 v_inn_house_one), (h_inn_house_other, aI E 10 v_inn_house_other), (h_night_how, aI E 10 v_night_how), (h_night_thingIn, aI E 4 v_night_thingIn), (h_night_full, aZ E 4 v_night_full), (h_night_handOf, aI E 3 v_night_handOf), (h_night_ways, .inr (8, [.ref h_night_ways_steps, .int v_night_ways_rooms])), (h_night_ways_steps, aI E 64 v_night_ways_steps), (h_inn_house_creak, aI E 8 v_inn_house_creak), (h_inn_listensIn, aI E 3 v_inn_listensIn), (h_inn_house_ways, .inr (8, [.ref h_inn_house_ways_steps, .int v_inn_house_ways_rooms])), (h_inn_house_ways_steps, aI E 64 v_inn_house_ways_steps), (h_night_heardBy, aJ E 3 v_night_heardBy), (h_inn_house_cold, aZ E 8 v_inn_house_cold), (h_inn_house_falls, aZ E 10 v_inn_house_falls), (h_night_passed, aI E 10 v_night_passed)]
def fX10_minutes (N : Nat) (p0 : Int32) (v_inn_minutes : Int32) (v_inn_sleepers : Int32) (v_inn_listeners : Int32) (v_night_been : Int32) (v_night_awake : Nat → Int32) (v_night_dreamOf : Nat → Int32) (v_night_stateOf : Nat → Int32) (v_inn_states : Nat → Int32) (v_night_roomOf : Nat → Int32) (v_inn_house_doors : Int32) (v_inn_house_one : Nat → Int32) (v_inn_house_other : Nat → Int32) (v_night_how : Nat → Int32) (v_night_thingIn : Nat → Int32) (v_night_full : Nat → Int32) (v_night_handOf : Nat → Int32) (v_night_ways_rooms : Int32) (v_night_ways_steps : Nat → Int32) (v_inn_house_creak : Nat → Int32) (v_inn_listensIn : Nat → Int32) (v_inn_house_ways_steps : Nat → Int32) (v_night_heardBy : Nat → Int64) (v_inn_house_cold : Nat → Int32) (v_inn_house_falls : Nat → Int32) (v_night_passed : Nat → Int32) : Option (Int32 × Int32 × Int32 × (Nat → Int32) × (Nat → Int32) × (Nat → Int32) × (Nat → Int32) × (Nat → Int32) × (Nat → Int32) × (Nat → Int32) × (Nat → Int64) × (Nat → Int32)) := (fX10_isTold N v_inn_minutes).bind (un1 fun (r_1 : Int32) => if r_1 = 0 then ((fX10_refuse N 1).bind (un2 fun (r_9 : Int32) (v_refusal_9 : Int32) => some (r_9, v_refusal_9, v_night_been, v_night_awake, v_night_stateOf, v_night_roomOf, v_night_how, v_night_thingIn, v_night_full, v_night_handOf, v_night_heardBy, v_night_passed))) else (if p0 < 1 then ((fX10_refuse N 2).bind (un2 fun (r_26 : Int32) (v_refusal_26 : Int32) => some (r_26, v_refusal_26, v_night_been, v_night_awake, v_night_stateOf, v_night_roomOf, v_night_how, v_night_thingIn, v_night_full, v_night_handOf, v_night_heardBy, v_night_passed))) else (if p0 ≤ 40 then (if 0 < (v_inn_minutes - v_night_been) then ((fX4_pass N (if (v_inn_minutes - v_night_been) < p0 then (v_inn_minutes - v_night_been) else p0) v_night_been v_inn_sleepers v_inn_listeners v_night_awake v_night_dreamOf v_night_stateOf v_inn_states v_night_roomOf v_inn_house_doors v_inn_house_one v_inn_house_other v_night_how v_night_thingIn v_night_full v_night_handOf v_night_ways_rooms v_night_ways_steps v_inn_house_creak v_inn_listensIn v_inn_house_ways_steps v_night_heardBy v_inn_house_cold v_inn_house_falls v_night_passed).bind (un11 fun (r_67 : Int32) (v_night_been_67 : Int32) (v_night_awake_67 : Nat → Int32) (v_night_stateOf_67 : Nat → Int32) (v_night_roomOf_67 : Nat → Int32) (v_night_how_67 : Nat → Int32) (v_night_thingIn_67 : Nat → Int32) (v_night_full_67 : Nat → Int32) (v_night_handOf_67 : Nat → Int32) (v_night_heardBy_67 : Nat → Int64) (v_night_passed_67 : Nat → Int32) => (fX10_answer N r_67).bind (un2 fun (r_70 : Int32) (v_refusal_70 : Int32) => some (r_70, v_refusal_70, v_night_been_67, v_night_awake_67, v_night_stateOf_67, v_night_roomOf_67, v_night_how_67, v_night_thingIn_67, v_night_full_67, v_night_handOf_67, v_night_heardBy_67, v_night_passed_67)))) else ((fX10_refuse N 6).bind (un2 fun (r_53 : Int32) (v_refusal_53 : Int32) => some (r_53, v_refusal_53, v_night_been, v_night_awake, v_night_stateOf, v_night_roomOf, v_night_how, v_night_thingIn, v_night_full, v_night_handOf, v_night_heardBy, v_night_passed)))) else ((fX10_refuse N 2).bind (un2 fun (r_26 : Int32) (v_refusal_26 : Int32) => some (r_26, v_refusal_26, v_night_been, v_night_awake, v_night_stateOf, v_night_roomOf, v_night_how, v_night_thingIn, v_night_full, v_night_handOf, v_night_heardBy, v_night_passed))))))
set_option maxHeartbeats 4000000 in
set_option maxRecDepth 100000 in
theorem ctX10_minutes (l : Launch) (E : EN) (h h_reader h_inn h_chosen h_night h_marks h_notes h_casts h_inn_house h_inn_thingIn h_inn_full h_inn_states h_inn_bed h_inn_dreamOf h_inn_listensIn h_night_ways h_night_how h_night_passed h_night_dreamOf h_night_stateOf h_night_roomOf h_night_handOf h_night_awake h_night_thingIn h_night_full h_night_heardBy h_inn_house_creak h_inn_house_cold h_inn_house_one h_inn_house_other h_inn_house_how h_inn_house_falls h_inn_house_ways h_night_ways_steps h_inn_house_ways_steps : Nat) (v_marked : Int32) (v_refusal : Int32) (v_latestFault : Int32) (v_faultPlace : Int32) (v_inn_minutes : Int32) (v_inn_things : Int32) (v_inn_dreams : Int32) (v_inn_sleepers : Int32) (v_inn_listeners : Int32) (v_night_setting : Int32) (v_night_been : Int32) (v_night_awake : Nat → Int32) (v_night_dreamOf : Nat → Int32) (v_night_stateOf : Nat → Int32) (v_inn_states : Nat → Int32) (v_night_roomOf : Nat → Int32) (v_inn_house_rooms : Int32) (v_inn_house_doors : Int32) (v_inn_house_one : Nat → Int32) (v_inn_house_other : Nat → Int32) (v_night_how : Nat → Int32) (v_night_thingIn : Nat → Int32) (v_night_full : Nat → Int32) (v_night_handOf : Nat → Int32) (v_night_ways_rooms : Int32) (v_night_ways_steps : Nat → Int32) (v_inn_house_creak : Nat → Int32) (v_inn_listensIn : Nat → Int32) (v_inn_house_ways_rooms : Int32) (v_inn_house_ways_steps : Nat → Int32) (v_night_heardBy : Nat → Int64) (v_inn_house_cold : Nat → Int32) (v_inn_house_falls : Nat → Int32) (v_night_passed : Nat → Int32) (N : Nat) (p0 : Int32) (z0 : Int32) (z1 : Int32) (z2 : Int32) (z3 : Nat → Int32) (z4 : Nat → Int32) (z5 : Nat → Int32) (z6 : Nat → Int32) (z7 : Nat → Int32) (z8 : Nat → Int32) (z9 : Nat → Int32) (z10 : Nat → Int64) (z11 : Nat → Int32) (hf : fX10_minutes N p0 v_inn_minutes v_inn_sleepers v_inn_listeners v_night_been v_night_awake v_night_dreamOf v_night_stateOf v_inn_states v_night_roomOf v_inn_house_doors v_inn_house_one v_inn_house_other v_night_how v_night_thingIn v_night_full v_night_handOf v_night_ways_rooms v_night_ways_steps v_inn_house_creak v_inn_listensIn v_inn_house_ways_steps v_night_heardBy v_inn_house_cold v_inn_house_falls v_night_passed = some (z0, z1, z2, z3, z4, z5, z6, z7, z8, z9, z10, z11)) : CTi l E yX10_minutes cX10_minutes 3 .int 5 119 [.ref h, .int p0] (wX10_minutes E h h_reader h_inn h_chosen h_night h_marks h_notes h_casts h_inn_house h_inn_thingIn h_inn_full h_inn_states h_inn_bed h_inn_dreamOf h_inn_listensIn h_night_ways h_night_how h_night_passed h_night_dreamOf h_night_stateOf h_night_roomOf h_night_handOf h_night_awake h_night_thingIn h_night_full h_night_heardBy h_inn_house_creak h_inn_house_cold h_inn_house_one h_inn_house_other h_inn_house_how h_inn_house_falls h_inn_house_ways h_night_ways_steps h_inn_house_ways_steps v_marked v_refusal v_latestFault v_faultPlace v_inn_minutes v_inn_things v_inn_dreams v_inn_sleepers v_inn_listeners v_night_setting v_night_been v_night_awake v_night_dreamOf v_night_stateOf v_inn_states v_night_roomOf v_inn_house_rooms v_inn_house_doors v_inn_house_one v_inn_house_other v_night_how v_night_thingIn v_night_full v_night_handOf v_night_ways_rooms v_night_ways_steps v_inn_house_creak v_inn_listensIn v_inn_house_ways_rooms v_inn_house_ways_steps v_night_heardBy v_inn_house_cold v_inn_house_falls v_night_passed) z0 (wX10_minutes E h h_reader h_inn h_chosen h_night h_marks h_notes h_casts h_inn_house h_inn_thingIn h_inn_full h_inn_states h_inn_bed h_inn_dreamOf h_inn_listensIn h_night_ways h_night_how h_night_passed h_night_dreamOf h_night_stateOf h_night_roomOf h_night_handOf h_night_awake h_night_thingIn h_night_full h_night_heardBy h_inn_house_creak h_inn_house_cold h_inn_house_one h_inn_house_other h_inn_house_how h_inn_house_falls h_inn_house_ways h_night_ways_steps h_inn_house_ways_steps v_marked z1 v_latestFault v_faultPlace v_inn_minutes v_inn_things v_inn_dreams v_inn_sleepers v_inn_listeners v_night_setting z2 z3 v_night_dreamOf z4 v_inn_states z5 v_inn_house_rooms v_inn_house_doors v_inn_house_one v_inn_house_other z6 z7 z8 z9 v_night_ways_rooms v_night_ways_steps v_inn_house_creak v_inn_listensIn v_inn_house_ways_rooms v_inn_house_ways_steps z10 v_inn_house_cold v_inn_house_falls z11) := by
  intro sz
  refine ct_body (by decide) (Nat.le_of_ble_eq_true rfl) ?_
  intro p e s m args below meth c A ls hAe C hr hin hP hD hS hl
  have C : CX p s m args meth c cX10_minutes RX10 3 E A := C
  have hl : lv_has ls 3 [(0, .ref h), (1, .int p0)] := hl
  have hx := C.1
  have hb := C.2.1
  rw [hAe]
  clear hAe
  obtain ⟨Q, hQ⟩ : ∃ Q, Q = MQ below (Qi E A z0 (wX10_minutes E h h_reader h_inn h_chosen h_night h_marks h_notes h_casts h_inn_house h_inn_thingIn h_inn_full h_inn_states h_inn_bed h_inn_dreamOf h_inn_listensIn h_night_ways h_night_how h_night_passed h_night_dreamOf h_night_stateOf h_night_roomOf h_night_handOf h_night_awake h_night_thingIn h_night_full h_night_heardBy h_inn_house_creak h_inn_house_cold h_inn_house_one h_inn_house_other h_inn_house_how h_inn_house_falls h_inn_house_ways h_night_ways_steps h_inn_house_ways_steps v_marked z1 v_latestFault v_faultPlace v_inn_minutes v_inn_things v_inn_dreams v_inn_sleepers v_inn_listeners v_night_setting z2 z3 v_night_dreamOf z4 v_inn_states z5 v_inn_house_rooms v_inn_house_doors v_inn_house_one v_inn_house_other z6 z7 z8 z9 v_night_ways_rooms v_night_ways_steps v_inn_house_creak v_inn_listensIn v_inn_house_ways_rooms v_inn_house_ways_steps z10 v_inn_house_cold v_inn_house_falls z11)) args s 0 0 A := ⟨_, rfl⟩
  rw [← hQ]
  unfold fX10_minutes at hf
  refine lv_aload_n hx hb dX10_minutes_0 rfl (lv_at hl 0 rfl) ?_
  obtain ⟨r_1, hc_1, hf⟩ := bd1 hf
  refine r_callVi (ws' := (wX10_minutes E h h_reader h_inn h_chosen h_night h_marks h_notes h_casts h_inn_house h_inn_thingIn h_inn_full h_inn_states h_inn_bed h_inn_dreamOf h_inn_listensIn h_night_ways h_night_how h_night_passed h_night_dreamOf h_night_stateOf h_night_roomOf h_night_handOf h_night_awake h_night_thingIn h_night_full h_night_heardBy h_inn_house_creak h_inn_house_cold h_inn_house_one h_inn_house_other h_inn_house_how h_inn_house_falls h_inn_house_ways h_night_ways_steps h_inn_house_ways_steps v_marked v_refusal v_latestFault v_faultPlace v_inn_minutes v_inn_things v_inn_dreams v_inn_sleepers v_inn_listeners v_night_setting v_night_been v_night_awake v_night_dreamOf v_night_stateOf v_inn_states v_night_roomOf v_inn_house_rooms v_inn_house_doors v_inn_house_one v_inn_house_other v_night_how v_night_thingIn v_night_full v_night_handOf v_night_ways_rooms v_night_ways_steps v_inn_house_creak v_inn_listensIn v_inn_house_ways_rooms v_inn_house_ways_steps v_night_heardBy v_inn_house_cold v_inn_house_falls v_night_passed)) (As := []) (rest := []) C (ctX10_isTold l E h h_reader h_inn h_chosen h_night h_marks h_notes h_casts h_inn_house h_inn_thingIn h_inn_full h_inn_states h_inn_bed h_inn_dreamOf h_inn_listensIn v_marked v_refusal v_latestFault v_faultPlace v_inn_minutes v_inn_things v_inn_dreams v_inn_sleepers v_inn_listeners N r_1 hc_1) ml_X10_170 ⟨Nat.le_of_ble_eq_true rfl, Nat.le_of_ble_eq_true rfl⟩ hP hD hS 0 rfl rfl rfl [0, 1] rfl rfl rfl rfl rfl hl.1 rfl (Nat.le_of_ble_eq_true rfl) ⟨Nat.zero_le _, Nat.zero_le _⟩ dX10_minutes_1 ?_
  clear hP hD hS; intro H locs hP hD hS
  refine lv_if_ne (tgt := 13) hx hb dX10_minutes_4 (by decide) (fun c_4 => ?_) (fun c_4 => ?_)
  · replace hf := it_f c_4 hf
    refine lv_iload_n hx hb dX10_minutes_13 rfl (lv_at hl 1 rfl) ?_
    refine lv_iconst (v := 1) hx hb dX10_minutes_14 (by decide) ?_
    refine lv_icmp_lt (tgt := 24) hx hb dX10_minutes_15 (by decide) (fun c_15 => ?_) (fun c_15 => ?_)
    · replace hf := it_t c_15 hf
      refine lv_aload_n hx hb dX10_minutes_24 rfl (lv_at hl 0 rfl) ?_
      refine lv_iconst (v := 2) hx hb dX10_minutes_25 (by decide) ?_
      obtain ⟨r_26, v_refusal_26, hc_26, hf⟩ := bd2 hf
      refine r_callVi (ws' := (wX10_minutes E h h_reader h_inn h_chosen h_night h_marks h_notes h_casts h_inn_house h_inn_thingIn h_inn_full h_inn_states h_inn_bed h_inn_dreamOf h_inn_listensIn h_night_ways h_night_how h_night_passed h_night_dreamOf h_night_stateOf h_night_roomOf h_night_handOf h_night_awake h_night_thingIn h_night_full h_night_heardBy h_inn_house_creak h_inn_house_cold h_inn_house_one h_inn_house_other h_inn_house_how h_inn_house_falls h_inn_house_ways h_night_ways_steps h_inn_house_ways_steps v_marked v_refusal_26 v_latestFault v_faultPlace v_inn_minutes v_inn_things v_inn_dreams v_inn_sleepers v_inn_listeners v_night_setting v_night_been v_night_awake v_night_dreamOf v_night_stateOf v_inn_states v_night_roomOf v_inn_house_rooms v_inn_house_doors v_inn_house_one v_inn_house_other v_night_how v_night_thingIn v_night_full v_night_handOf v_night_ways_rooms v_night_ways_steps v_inn_house_creak v_inn_listensIn v_inn_house_ways_rooms v_inn_house_ways_steps v_night_heardBy v_inn_house_cold v_inn_house_falls v_night_passed)) (As := [.int 2]) (rest := []) C (ctX10_refuse l E h h_reader h_inn h_chosen h_night h_marks h_notes h_casts v_marked v_refusal v_latestFault v_faultPlace N 2 r_26 v_refusal_26 hc_26) ml_X10_68 ⟨Nat.le_of_ble_eq_true rfl, Nat.le_of_ble_eq_true rfl⟩ hP hD hS 0 rfl rfl rfl [0] rfl rfl rfl rfl rfl hl.1 rfl (Nat.le_of_ble_eq_true rfl) ⟨Nat.zero_le _, Nat.zero_le _⟩ dX10_minutes_26 ?_
      clear hP hD hS; intro H locs hP hD hS
      cases hf
      rw [hQ]
      exact r_iret C hr hP hD hS rfl dX10_minutes_29
    · replace hf := it_f c_15 hf
      refine lv_iload_n hx hb dX10_minutes_18 rfl (lv_at hl 1 rfl) ?_
      refine lv_bipush (v := 40) hx hb dX10_minutes_19 (by decide) ?_
      refine lv_icmp_le (tgt := 30) hx hb dX10_minutes_21 (by decide) (fun c_21 => ?_) (fun c_21 => ?_)
      · replace hf := it_t c_21 hf
        refine lv_aload_n hx hb dX10_minutes_30 rfl (lv_at hl 0 rfl) ?_
        refine r_get C hP 0 rfl fl_X10_19 rfl dX10_minutes_31 ?_
        refine r_get C hP 1 rfl fl_X10_172 rfl dX10_minutes_34 ?_
        refine lv_aload_n hx hb dX10_minutes_37 rfl (lv_at hl 0 rfl) ?_
        refine r_get C hP 0 rfl fl_X10_32 rfl dX10_minutes_38 ?_
        refine r_get C hP 2 rfl fl_X10_175 rfl dX10_minutes_41 ?_
        refine lv_isub hx hb dX10_minutes_44 ?_
        refine lv_istore_n (lv' := [(2, .int (v_inn_minutes - v_night_been)), (0, .ref h), (1, .int p0)]) hx hb dX10_minutes_45 rfl hl (by decide) rfl (fun ls hl => ?_)
        refine lv_iload_n hx hb dX10_minutes_46 rfl (lv_at hl 0 rfl) ?_
        refine lv_if_gt (tgt := 57) hx hb dX10_minutes_47 (by decide) (fun c_47 => ?_) (fun c_47 => ?_)
        · replace hf := it_t c_47 hf
          refine lv_aload_n hx hb dX10_minutes_57 rfl (lv_at hl 1 rfl) ?_
          refine lv_aload_n hx hb dX10_minutes_58 rfl (lv_at hl 1 rfl) ?_
          refine r_get C hP 0 rfl fl_X10_32 rfl dX10_minutes_59 ?_
          refine lv_iload_n hx hb dX10_minutes_62 rfl (lv_at hl 2 rfl) ?_
          refine lv_iload_n hx hb dX10_minutes_63 rfl (lv_at hl 0 rfl) ?_
          refine va_mmin hx hb (by rw [C.2.2.1, hl.1]) C.2.2.2.1 (C.2.2.2.2.1 _ mm_X10_178.1) (C.2.2.2.2.1 _ mm_X10_178.2.1) (C.2.2.2.2.1 _ mm_X10_178.2.2.1) (C.2.2.2.2.1 _ mm_X10_178.2.2.2) (Nat.le_of_ble_eq_true rfl) (Nat.le_of_ble_eq_true rfl) (Nat.zero_le _) (Nat.zero_le _) dX10_minutes_64 ?_
          obtain ⟨r_67, v_night_been_67, v_night_awake_67, v_night_stateOf_67, v_night_roomOf_67, v_night_how_67, v_night_thingIn_67, v_night_full_67, v_night_handOf_67, v_night_heardBy_67, v_night_passed_67, hc_67, hf⟩ := bd11 hf
          refine r_callVi (ws' := (wX10_minutes E h h_reader h_inn h_chosen h_night h_marks h_notes h_casts h_inn_house h_inn_thingIn h_inn_full h_inn_states h_inn_bed h_inn_dreamOf h_inn_listensIn h_night_ways h_night_how h_night_passed h_night_dreamOf h_night_stateOf h_night_roomOf h_night_handOf h_night_awake h_night_thingIn h_night_full h_night_heardBy h_inn_house_creak h_inn_house_cold h_inn_house_one h_inn_house_other h_inn_house_how h_inn_house_falls h_inn_house_ways h_night_ways_steps h_inn_house_ways_steps v_marked v_refusal v_latestFault v_faultPlace v_inn_minutes v_inn_things v_inn_dreams v_inn_sleepers v_inn_listeners v_night_setting v_night_been_67 v_night_awake_67 v_night_dreamOf v_night_stateOf_67 v_inn_states v_night_roomOf_67 v_inn_house_rooms v_inn_house_doors v_inn_house_one v_inn_house_other v_night_how_67 v_night_thingIn_67 v_night_full_67 v_night_handOf_67 v_night_ways_rooms v_night_ways_steps v_inn_house_creak v_inn_listensIn v_inn_house_ways_rooms v_inn_house_ways_steps v_night_heardBy_67 v_inn_house_cold v_inn_house_falls v_night_passed_67)) (As := [.int (if (v_inn_minutes - v_night_been) < p0 then (v_inn_minutes - v_night_been) else p0)]) (rest := [.ref h]) C (ctX4_pass l E h_night h_inn h_night_ways h_night_how h_night_passed h_night_dreamOf h_night_stateOf h_night_roomOf h_night_handOf h_night_awake h_night_thingIn h_night_full h_night_heardBy h_inn_house h_inn_thingIn h_inn_full h_inn_states h_inn_bed h_inn_dreamOf h_inn_listensIn h_inn_house_creak h_inn_house_cold h_inn_house_one h_inn_house_other h_inn_house_how h_inn_house_falls h_inn_house_ways h_night_ways_steps h_inn_house_ways_steps v_night_setting v_night_been v_inn_minutes v_inn_things v_inn_dreams v_inn_sleepers v_inn_listeners v_night_awake v_night_dreamOf v_night_stateOf v_inn_states v_night_roomOf v_inn_house_rooms v_inn_house_doors v_inn_house_one v_inn_house_other v_night_how v_night_thingIn v_night_full v_night_handOf v_night_ways_rooms v_night_ways_steps v_inn_house_creak v_inn_listensIn v_inn_house_ways_rooms v_inn_house_ways_steps v_night_heardBy v_inn_house_cold v_inn_house_falls v_night_passed N (if (v_inn_minutes - v_night_been) < p0 then (v_inn_minutes - v_night_been) else p0) r_67 v_night_been_67 v_night_awake_67 v_night_stateOf_67 v_night_roomOf_67 v_night_how_67 v_night_thingIn_67 v_night_full_67 v_night_handOf_67 v_night_heardBy_67 v_night_passed_67 hc_67) ml_X10_183 ⟨Nat.le_of_ble_eq_true rfl, Nat.le_of_ble_eq_true rfl⟩ hP hD hS 2 rfl rfl rfl [2, 1, 3, 4, 5, 6, 7, 8, 9, 10, 11, 12, 13, 14, 15, 16, 17, 18, 19, 20, 21, 22, 23, 24] rfl rfl rfl rfl rfl hl.1 rfl (Nat.le_of_ble_eq_true rfl) ⟨Nat.zero_le _, Nat.zero_le _⟩ dX10_minutes_67 ?_
          clear hP hD hS; intro H locs hP hD hS
          obtain ⟨r_70, v_refusal_70, hc_70, hf⟩ := bd2 hf
          refine r_callVi (ws' := (wX10_minutes E h h_reader h_inn h_chosen h_night h_marks h_notes h_casts h_inn_house h_inn_thingIn h_inn_full h_inn_states h_inn_bed h_inn_dreamOf h_inn_listensIn h_night_ways h_night_how h_night_passed h_night_dreamOf h_night_stateOf h_night_roomOf h_night_handOf h_night_awake h_night_thingIn h_night_full h_night_heardBy h_inn_house_creak h_inn_house_cold h_inn_house_one h_inn_house_other h_inn_house_how h_inn_house_falls h_inn_house_ways h_night_ways_steps h_inn_house_ways_steps v_marked v_refusal_70 v_latestFault v_faultPlace v_inn_minutes v_inn_things v_inn_dreams v_inn_sleepers v_inn_listeners v_night_setting v_night_been_67 v_night_awake_67 v_night_dreamOf v_night_stateOf_67 v_inn_states v_night_roomOf_67 v_inn_house_rooms v_inn_house_doors v_inn_house_one v_inn_house_other v_night_how_67 v_night_thingIn_67 v_night_full_67 v_night_handOf_67 v_night_ways_rooms v_night_ways_steps v_inn_house_creak v_inn_listensIn v_inn_house_ways_rooms v_inn_house_ways_steps v_night_heardBy_67 v_inn_house_cold v_inn_house_falls v_night_passed_67)) (As := [.int r_67]) (rest := []) C (ctX10_answer l E h h_reader h_inn h_chosen h_night h_marks h_notes h_casts v_marked v_refusal v_latestFault v_faultPlace N r_67 r_70 v_refusal_70 hc_70) ml_X10_95 ⟨Nat.le_of_ble_eq_true rfl, Nat.le_of_ble_eq_true rfl⟩ hP hD hS 0 rfl rfl rfl [0] rfl rfl rfl rfl rfl hl.1 rfl (Nat.le_of_ble_eq_true rfl) ⟨Nat.zero_le _, Nat.zero_le _⟩ dX10_minutes_70 ?_
          clear hP hD hS; intro H locs hP hD hS
          cases hf
          rw [hQ]
          exact r_iret C hr hP hD hS rfl dX10_minutes_73
        · replace hf := it_f c_47 hf
          refine lv_aload_n hx hb dX10_minutes_50 rfl (lv_at hl 1 rfl) ?_
          refine lv_bipush (v := 6) hx hb dX10_minutes_51 (by decide) ?_
          obtain ⟨r_53, v_refusal_53, hc_53, hf⟩ := bd2 hf
          refine r_callVi (ws' := (wX10_minutes E h h_reader h_inn h_chosen h_night h_marks h_notes h_casts h_inn_house h_inn_thingIn h_inn_full h_inn_states h_inn_bed h_inn_dreamOf h_inn_listensIn h_night_ways h_night_how h_night_passed h_night_dreamOf h_night_stateOf h_night_roomOf h_night_handOf h_night_awake h_night_thingIn h_night_full h_night_heardBy h_inn_house_creak h_inn_house_cold h_inn_house_one h_inn_house_other h_inn_house_how h_inn_house_falls h_inn_house_ways h_night_ways_steps h_inn_house_ways_steps v_marked v_refusal_53 v_latestFault v_faultPlace v_inn_minutes v_inn_things v_inn_dreams v_inn_sleepers v_inn_listeners v_night_setting v_night_been v_night_awake v_night_dreamOf v_night_stateOf v_inn_states v_night_roomOf v_inn_house_rooms v_inn_house_doors v_inn_house_one v_inn_house_other v_night_how v_night_thingIn v_night_full v_night_handOf v_night_ways_rooms v_night_ways_steps v_inn_house_creak v_inn_listensIn v_inn_house_ways_rooms v_inn_house_ways_steps v_night_heardBy v_inn_house_cold v_inn_house_falls v_night_passed)) (As := [.int 6]) (rest := []) C (ctX10_refuse l E h h_reader h_inn h_chosen h_night h_marks h_notes h_casts v_marked v_refusal v_latestFault v_faultPlace N 6 r_53 v_refusal_53 hc_53) ml_X10_68 ⟨Nat.le_of_ble_eq_true rfl, Nat.le_of_ble_eq_true rfl⟩ hP hD hS 0 rfl rfl rfl [0] rfl rfl rfl rfl rfl hl.1 rfl (Nat.le_of_ble_eq_true rfl) ⟨Nat.zero_le _, Nat.zero_le _⟩ dX10_minutes_53 ?_
          clear hP hD hS; intro H locs hP hD hS
          cases hf
          rw [hQ]
          exact r_iret C hr hP hD hS rfl dX10_minutes_56
      · replace hf := it_f c_21 hf
        refine lv_aload_n hx hb dX10_minutes_24 rfl (lv_at hl 0 rfl) ?_
        refine lv_iconst (v := 2) hx hb dX10_minutes_25 (by decide) ?_
        obtain ⟨r_26, v_refusal_26, hc_26, hf⟩ := bd2 hf
        refine r_callVi (ws' := (wX10_minutes E h h_reader h_inn h_chosen h_night h_marks h_notes h_casts h_inn_house h_inn_thingIn h_inn_full h_inn_states h_inn_bed h_inn_dreamOf h_inn_listensIn h_night_ways h_night_how h_night_passed h_night_dreamOf h_night_stateOf h_night_roomOf h_night_handOf h_night_awake h_night_thingIn h_night_full h_night_heardBy h_inn_house_creak h_inn_house_cold h_inn_house_one h_inn_house_other h_inn_house_how h_inn_house_falls h_inn_house_ways h_night_ways_steps h_inn_house_ways_steps v_marked v_refusal_26 v_latestFault v_faultPlace v_inn_minutes v_inn_things v_inn_dreams v_inn_sleepers v_inn_listeners v_night_setting v_night_been v_night_awake v_night_dreamOf v_night_stateOf v_inn_states v_night_roomOf v_inn_house_rooms v_inn_house_doors v_inn_house_one v_inn_house_other v_night_how v_night_thingIn v_night_full v_night_handOf v_night_ways_rooms v_night_ways_steps v_inn_house_creak v_inn_listensIn v_inn_house_ways_rooms v_inn_house_ways_steps v_night_heardBy v_inn_house_cold v_inn_house_falls v_night_passed)) (As := [.int 2]) (rest := []) C (ctX10_refuse l E h h_reader h_inn h_chosen h_night h_marks h_notes h_casts v_marked v_refusal v_latestFault v_faultPlace N 2 r_26 v_refusal_26 hc_26) ml_X10_68 ⟨Nat.le_of_ble_eq_true rfl, Nat.le_of_ble_eq_true rfl⟩ hP hD hS 0 rfl rfl rfl [0] rfl rfl rfl rfl rfl hl.1 rfl (Nat.le_of_ble_eq_true rfl) ⟨Nat.zero_le _, Nat.zero_le _⟩ dX10_minutes_26 ?_
        clear hP hD hS; intro H locs hP hD hS
        cases hf
        rw [hQ]
        exact r_iret C hr hP hD hS rfl dX10_minutes_29
  · replace hf := it_t c_4 hf
    refine lv_aload_n hx hb dX10_minutes_7 rfl (lv_at hl 0 rfl) ?_
    refine lv_iconst (v := 1) hx hb dX10_minutes_8 (by decide) ?_
    obtain ⟨r_9, v_refusal_9, hc_9, hf⟩ := bd2 hf
    refine r_callVi (ws' := (wX10_minutes E h h_reader h_inn h_chosen h_night h_marks h_notes h_casts h_inn_house h_inn_thingIn h_inn_full h_inn_states h_inn_bed h_inn_dreamOf h_inn_listensIn h_night_ways h_night_how h_night_passed h_night_dreamOf h_night_stateOf h_night_roomOf h_night_handOf h_night_awake h_night_thingIn h_night_full h_night_heardBy h_inn_house_creak h_inn_house_cold h_inn_house_one h_inn_house_other h_inn_house_how h_inn_house_falls h_inn_house_ways h_night_ways_steps h_inn_house_ways_steps v_marked v_refusal_9 v_latestFault v_faultPlace v_inn_minutes v_inn_things v_inn_dreams v_inn_sleepers v_inn_listeners v_night_setting v_night_been v_night_awake v_night_dreamOf v_night_stateOf v_inn_states v_night_roomOf v_inn_house_rooms v_inn_house_doors v_inn_house_one v_inn_house_other v_night_how v_night_thingIn v_night_full v_night_handOf v_night_ways_rooms v_night_ways_steps v_inn_house_creak v_inn_listensIn v_inn_house_ways_rooms v_inn_house_ways_steps v_night_heardBy v_inn_house_cold v_inn_house_falls v_night_passed)) (As := [.int 1]) (rest := []) C (ctX10_refuse l E h h_reader h_inn h_chosen h_night h_marks h_notes h_casts v_marked v_refusal v_latestFault v_faultPlace N 1 r_9 v_refusal_9 hc_9) ml_X10_68 ⟨Nat.le_of_ble_eq_true rfl, Nat.le_of_ble_eq_true rfl⟩ hP hD hS 0 rfl rfl rfl [0] rfl rfl rfl rfl rfl hl.1 rfl (Nat.le_of_ble_eq_true rfl) ⟨Nat.zero_le _, Nat.zero_le _⟩ dX10_minutes_9 ?_
    clear hP hD hS; intro H locs hP hD hS
    cases hf
    rw [hQ]
    exact r_iret C hr hP hD hS rfl dX10_minutes_12
def wX10_morning (E : EN) (h h_reader h_inn h_chosen h_night h_marks h_notes h_casts h_inn_house h_inn_thingIn h_inn_full h_inn_states h_inn_bed h_inn_dreamOf h_inn_listensIn h_night_ways h_night_how h_night_passed h_night_dreamOf h_night_stateOf h_night_roomOf h_night_handOf h_night_awake h_night_thingIn h_night_full h_night_heardBy h_inn_house_creak h_inn_house_cold h_inn_house_one h_inn_house_other h_inn_house_how h_inn_house_falls h_inn_house_ways h_night_ways_steps h_inn_house_ways_steps : Nat) (v_marked : Int32) (v_refusal : Int32) (v_latestFault : Int32) (v_faultPlace : Int32) (v_inn_minutes : Int32) (v_inn_things : Int32) (v_inn_dreams : Int32) (v_inn_sleepers : Int32) (v_inn_listeners : Int32) (v_night_setting : Int32) (v_night_been : Int32) (v_night_awake : Nat → Int32) (v_night_dreamOf : Nat → Int32) (v_night_stateOf : Nat → Int32) (v_inn_states : Nat → Int32) (v_night_roomOf : Nat → Int32) (v_inn_house_rooms : Int32) (v_inn_house_doors : Int32) (v_inn_house_one : Nat → Int32) (v_inn_house_other : Nat → Int32) (v_night_how : Nat → Int32) (v_night_thingIn : Nat → Int32) (v_night_full : Nat → Int32) (v_night_handOf : Nat → Int32) (v_night_ways_rooms : Int32) (v_night_ways_steps : Nat → Int32) (v_inn_house_creak : Nat → Int32) (v_inn_listensIn : Nat → Int32) (v_inn_house_ways_rooms : Int32) (v_inn_house_ways_steps : Nat → Int32) (v_night_heardBy : Nat → Int64) (v_inn_house_cold : Nat → Int32) (v_inn_house_falls : Nat → Int32) (v_night_passed : Nat → Int32) : va_W := [(h, .inr (9, [.ref h_reader, .ref h_inn, .ref h_chosen, .ref h_night, .ref h_marks, .int v_marked, .ref h_notes, .ref h_casts, .int v_refusal, .int v_latestFault, .int v_faultPlace])), (h_inn, .inr (2, [.ref h_inn_house, .int v_inn_minutes, .int v_inn_things, .ref h_inn_thingIn, .ref h_inn_full, .int v_inn_dreams, .ref h_inn_states, .int v_inn_sleepers, .ref h_inn_bed, .ref h_inn_dreamOf, .int v_inn_listeners, .ref h_inn_listensIn])), (h_night, .inr (4, [.ref h_inn, .int v_night_setting, .int v_night_been, .ref h_night_ways, .ref h_night_how, .ref h_night_passed, .ref h_night_dreamOf, .ref h_night_stateOf, .ref h_night_roomOf, .ref h_night_handOf, .ref h_night_awake, .ref h_night_thingIn, .ref h_night_full, .ref h_night_heardBy])), (h_night_awake, aZ E 3 v_night_awake), (h_night_dreamOf, aI E 3 v_night_dreamOf), (h_night_stateOf, aI E 3 v_night_stateOf), (h_inn_states, aI E 64 v_inn_states), (h_night_roomOf, aI E 3 v_night_roomOf), (h_inn_house, .inr (1, [.int v_inn_house_rooms, .ref h_inn_house_creak, .ref h_inn_house_cold, .int v_inn_house_doors, .ref h_inn_house_one, .ref h_inn_house_other, .ref h_inn_house_how, .ref h_inn_house_falls, .ref h_inn_house_ways])), (h_inn_house_one, aI E 10 v_inn_house_one), (h_inn_house_other, aI E 10 v_inn_house_other), (h_night_how, aI E 10 v_night_how), (h_night_thingIn, aI E 4 v_night_thingIn), (h_night_full, aZ E 4 v_night_full), (h_night_handOf, aI E 3 v_night_handOf), (h_night_ways, .inr (8, [.ref h_night_ways_steps, .int v_night_ways_rooms])), (h_night_ways_steps, aI E 64 v_night_ways_steps), (h_inn_house_creak, aI E 8 v_inn_house_creak), (h_inn_listensIn, aI E 3 v_inn_listensIn), (h_inn_house_ways, .inr (8, [.ref h_inn_house_ways_steps, .int v_inn_house_ways_rooms])), (h_inn_house_ways_steps, aI E 64 v_inn_house_ways_steps), (h_night_heardBy, aJ E 3 v_night_heardBy), (h_inn_house_cold, aZ E 8 v_inn_house_cold), (h_inn_house_falls, aZ E 10 v_inn_house_falls), (h_night_passed, aI E 10 v_night_passed)]
def fX10_morning (N : Nat) (v_inn_minutes : Int32) (v_inn_sleepers : Int32) (v_inn_listeners : Int32) (v_night_been : Int32) (v_night_awake : Nat → Int32) (v_night_dreamOf : Nat → Int32) (v_night_stateOf : Nat → Int32) (v_inn_states : Nat → Int32) (v_night_roomOf : Nat → Int32) (v_inn_house_doors : Int32) (v_inn_house_one : Nat → Int32) (v_inn_house_other : Nat → Int32) (v_night_how : Nat → Int32) (v_night_thingIn : Nat → Int32) (v_night_full : Nat → Int32) (v_night_handOf : Nat → Int32) (v_night_ways_rooms : Int32) (v_night_ways_steps : Nat → Int32) (v_inn_house_creak : Nat → Int32) (v_inn_listensIn : Nat → Int32) (v_inn_house_ways_steps : Nat → Int32) (v_night_heardBy : Nat → Int64) (v_inn_house_cold : Nat → Int32) (v_inn_house_falls : Nat → Int32) (v_night_passed : Nat → Int32) : Option (Int32 × Int32 × Int32 × (Nat → Int32) × (Nat → Int32) × (Nat → Int32) × (Nat → Int32) × (Nat → Int32) × (Nat → Int32) × (Nat → Int32) × (Nat → Int64) × (Nat → Int32)) := (fX10_isTold N v_inn_minutes).bind (un1 fun (r_1 : Int32) => if r_1 = 0 then ((fX10_refuse N 1).bind (un2 fun (r_9 : Int32) (v_refusal_9 : Int32) => some (r_9, v_refusal_9, v_night_been, v_night_awake, v_night_stateOf, v_night_roomOf, v_night_how, v_night_thingIn, v_night_full, v_night_handOf, v_night_heardBy, v_night_passed))) else ((fX4_pass N (v_inn_minutes - v_night_been) v_night_been v_inn_sleepers v_inn_listeners v_night_awake v_night_dreamOf v_night_stateOf v_inn_states v_night_roomOf v_inn_house_doors v_inn_house_one v_inn_house_other v_night_how v_night_thingIn v_night_full v_night_handOf v_night_ways_rooms v_night_ways_steps v_inn_house_creak v_inn_listensIn v_inn_house_ways_steps v_night_heardBy v_inn_house_cold v_inn_house_falls v_night_passed).bind (un11 fun (r_33 : Int32) (v_night_been_33 : Int32) (v_night_awake_33 : Nat → Int32) (v_night_stateOf_33 : Nat → Int32) (v_night_roomOf_33 : Nat → Int32) (v_night_how_33 : Nat → Int32) (v_night_thingIn_33 : Nat → Int32) (v_night_full_33 : Nat → Int32) (v_night_handOf_33 : Nat → Int32) (v_night_heardBy_33 : Nat → Int64) (v_night_passed_33 : Nat → Int32) => (fX10_answer N r_33).bind (un2 fun (r_36 : Int32) (v_refusal_36 : Int32) => some (r_36, v_refusal_36, v_night_been_33, v_night_awake_33, v_night_stateOf_33, v_night_roomOf_33, v_night_how_33, v_night_thingIn_33, v_night_full_33, v_night_handOf_33, v_night_heardBy_33, v_night_passed_33)))))
set_option maxHeartbeats 4000000 in
set_option maxRecDepth 100000 in
theorem ctX10_morning (l : Launch) (E : EN) (h h_reader h_inn h_chosen h_night h_marks h_notes h_casts h_inn_house h_inn_thingIn h_inn_full h_inn_states h_inn_bed h_inn_dreamOf h_inn_listensIn h_night_ways h_night_how h_night_passed h_night_dreamOf h_night_stateOf h_night_roomOf h_night_handOf h_night_awake h_night_thingIn h_night_full h_night_heardBy h_inn_house_creak h_inn_house_cold h_inn_house_one h_inn_house_other h_inn_house_how h_inn_house_falls h_inn_house_ways h_night_ways_steps h_inn_house_ways_steps : Nat) (v_marked : Int32) (v_refusal : Int32) (v_latestFault : Int32) (v_faultPlace : Int32) (v_inn_minutes : Int32) (v_inn_things : Int32) (v_inn_dreams : Int32) (v_inn_sleepers : Int32) (v_inn_listeners : Int32) (v_night_setting : Int32) (v_night_been : Int32) (v_night_awake : Nat → Int32) (v_night_dreamOf : Nat → Int32) (v_night_stateOf : Nat → Int32) (v_inn_states : Nat → Int32) (v_night_roomOf : Nat → Int32) (v_inn_house_rooms : Int32) (v_inn_house_doors : Int32) (v_inn_house_one : Nat → Int32) (v_inn_house_other : Nat → Int32) (v_night_how : Nat → Int32) (v_night_thingIn : Nat → Int32) (v_night_full : Nat → Int32) (v_night_handOf : Nat → Int32) (v_night_ways_rooms : Int32) (v_night_ways_steps : Nat → Int32) (v_inn_house_creak : Nat → Int32) (v_inn_listensIn : Nat → Int32) (v_inn_house_ways_rooms : Int32) (v_inn_house_ways_steps : Nat → Int32) (v_night_heardBy : Nat → Int64) (v_inn_house_cold : Nat → Int32) (v_inn_house_falls : Nat → Int32) (v_night_passed : Nat → Int32) (N : Nat) (z0 : Int32) (z1 : Int32) (z2 : Int32) (z3 : Nat → Int32) (z4 : Nat → Int32) (z5 : Nat → Int32) (z6 : Nat → Int32) (z7 : Nat → Int32) (z8 : Nat → Int32) (z9 : Nat → Int32) (z10 : Nat → Int64) (z11 : Nat → Int32) (hf : fX10_morning N v_inn_minutes v_inn_sleepers v_inn_listeners v_night_been v_night_awake v_night_dreamOf v_night_stateOf v_inn_states v_night_roomOf v_inn_house_doors v_inn_house_one v_inn_house_other v_night_how v_night_thingIn v_night_full v_night_handOf v_night_ways_rooms v_night_ways_steps v_inn_house_creak v_inn_listensIn v_inn_house_ways_steps v_night_heardBy v_inn_house_cold v_inn_house_falls v_night_passed = some (z0, z1, z2, z3, z4, z5, z6, z7, z8, z9, z10, z11)) : CTi l E yX10_morning cX10_morning 1 .int 5 119 [.ref h] (wX10_morning E h h_reader h_inn h_chosen h_night h_marks h_notes h_casts h_inn_house h_inn_thingIn h_inn_full h_inn_states h_inn_bed h_inn_dreamOf h_inn_listensIn h_night_ways h_night_how h_night_passed h_night_dreamOf h_night_stateOf h_night_roomOf h_night_handOf h_night_awake h_night_thingIn h_night_full h_night_heardBy h_inn_house_creak h_inn_house_cold h_inn_house_one h_inn_house_other h_inn_house_how h_inn_house_falls h_inn_house_ways h_night_ways_steps h_inn_house_ways_steps v_marked v_refusal v_latestFault v_faultPlace v_inn_minutes v_inn_things v_inn_dreams v_inn_sleepers v_inn_listeners v_night_setting v_night_been v_night_awake v_night_dreamOf v_night_stateOf v_inn_states v_night_roomOf v_inn_house_rooms v_inn_house_doors v_inn_house_one v_inn_house_other v_night_how v_night_thingIn v_night_full v_night_handOf v_night_ways_rooms v_night_ways_steps v_inn_house_creak v_inn_listensIn v_inn_house_ways_rooms v_inn_house_ways_steps v_night_heardBy v_inn_house_cold v_inn_house_falls v_night_passed) z0 (wX10_morning E h h_reader h_inn h_chosen h_night h_marks h_notes h_casts h_inn_house h_inn_thingIn h_inn_full h_inn_states h_inn_bed h_inn_dreamOf h_inn_listensIn h_night_ways h_night_how h_night_passed h_night_dreamOf h_night_stateOf h_night_roomOf h_night_handOf h_night_awake h_night_thingIn h_night_full h_night_heardBy h_inn_house_creak h_inn_house_cold h_inn_house_one h_inn_house_other h_inn_house_how h_inn_house_falls h_inn_house_ways h_night_ways_steps h_inn_house_ways_steps v_marked z1 v_latestFault v_faultPlace v_inn_minutes v_inn_things v_inn_dreams v_inn_sleepers v_inn_listeners v_night_setting z2 z3 v_night_dreamOf z4 v_inn_states z5 v_inn_house_rooms v_inn_house_doors v_inn_house_one v_inn_house_other z6 z7 z8 z9 v_night_ways_rooms v_night_ways_steps v_inn_house_creak v_inn_listensIn v_inn_house_ways_rooms v_inn_house_ways_steps z10 v_inn_house_cold v_inn_house_falls z11) := by
  intro sz
  refine ct_body (by decide) (Nat.le_of_ble_eq_true rfl) ?_
  intro p e s m args below meth c A ls hAe C hr hin hP hD hS hl
  have C : CX p s m args meth c cX10_morning RX10 1 E A := C
  have hl : lv_has ls 1 [(0, .ref h)] := hl
  have hx := C.1
  have hb := C.2.1
  rw [hAe]
  clear hAe
  obtain ⟨Q, hQ⟩ : ∃ Q, Q = MQ below (Qi E A z0 (wX10_morning E h h_reader h_inn h_chosen h_night h_marks h_notes h_casts h_inn_house h_inn_thingIn h_inn_full h_inn_states h_inn_bed h_inn_dreamOf h_inn_listensIn h_night_ways h_night_how h_night_passed h_night_dreamOf h_night_stateOf h_night_roomOf h_night_handOf h_night_awake h_night_thingIn h_night_full h_night_heardBy h_inn_house_creak h_inn_house_cold h_inn_house_one h_inn_house_other h_inn_house_how h_inn_house_falls h_inn_house_ways h_night_ways_steps h_inn_house_ways_steps v_marked z1 v_latestFault v_faultPlace v_inn_minutes v_inn_things v_inn_dreams v_inn_sleepers v_inn_listeners v_night_setting z2 z3 v_night_dreamOf z4 v_inn_states z5 v_inn_house_rooms v_inn_house_doors v_inn_house_one v_inn_house_other z6 z7 z8 z9 v_night_ways_rooms v_night_ways_steps v_inn_house_creak v_inn_listensIn v_inn_house_ways_rooms v_inn_house_ways_steps z10 v_inn_house_cold v_inn_house_falls z11)) args s 0 0 A := ⟨_, rfl⟩
  rw [← hQ]
  unfold fX10_morning at hf
  refine lv_aload_n hx hb dX10_morning_0 rfl (lv_at hl 0 rfl) ?_
  obtain ⟨r_1, hc_1, hf⟩ := bd1 hf
  refine r_callVi (ws' := (wX10_morning E h h_reader h_inn h_chosen h_night h_marks h_notes h_casts h_inn_house h_inn_thingIn h_inn_full h_inn_states h_inn_bed h_inn_dreamOf h_inn_listensIn h_night_ways h_night_how h_night_passed h_night_dreamOf h_night_stateOf h_night_roomOf h_night_handOf h_night_awake h_night_thingIn h_night_full h_night_heardBy h_inn_house_creak h_inn_house_cold h_inn_house_one h_inn_house_other h_inn_house_how h_inn_house_falls h_inn_house_ways h_night_ways_steps h_inn_house_ways_steps v_marked v_refusal v_latestFault v_faultPlace v_inn_minutes v_inn_things v_inn_dreams v_inn_sleepers v_inn_listeners v_night_setting v_night_been v_night_awake v_night_dreamOf v_night_stateOf v_inn_states v_night_roomOf v_inn_house_rooms v_inn_house_doors v_inn_house_one v_inn_house_other v_night_how v_night_thingIn v_night_full v_night_handOf v_night_ways_rooms v_night_ways_steps v_inn_house_creak v_inn_listensIn v_inn_house_ways_rooms v_inn_house_ways_steps v_night_heardBy v_inn_house_cold v_inn_house_falls v_night_passed)) (As := []) (rest := []) C (ctX10_isTold l E h h_reader h_inn h_chosen h_night h_marks h_notes h_casts h_inn_house h_inn_thingIn h_inn_full h_inn_states h_inn_bed h_inn_dreamOf h_inn_listensIn v_marked v_refusal v_latestFault v_faultPlace v_inn_minutes v_inn_things v_inn_dreams v_inn_sleepers v_inn_listeners N r_1 hc_1) ml_X10_170 ⟨Nat.le_of_ble_eq_true rfl, Nat.le_of_ble_eq_true rfl⟩ hP hD hS 0 rfl rfl rfl [0, 1] rfl rfl rfl rfl rfl hl.1 rfl (Nat.le_of_ble_eq_true rfl) ⟨Nat.zero_le _, Nat.zero_le _⟩ dX10_morning_1 ?_
  clear hP hD hS; intro H locs hP hD hS
  refine lv_if_ne (tgt := 13) hx hb dX10_morning_4 (by decide) (fun c_4 => ?_) (fun c_4 => ?_)
  · replace hf := it_f c_4 hf
    refine lv_aload_n hx hb dX10_morning_13 rfl (lv_at hl 0 rfl) ?_
    refine lv_aload_n hx hb dX10_morning_14 rfl (lv_at hl 0 rfl) ?_
    refine r_get C hP 0 rfl fl_X10_32 rfl dX10_morning_15 ?_
    refine lv_aload_n hx hb dX10_morning_18 rfl (lv_at hl 0 rfl) ?_
    refine r_get C hP 0 rfl fl_X10_19 rfl dX10_morning_19 ?_
    refine r_get C hP 1 rfl fl_X10_172 rfl dX10_morning_22 ?_
    refine lv_aload_n hx hb dX10_morning_25 rfl (lv_at hl 0 rfl) ?_
    refine r_get C hP 0 rfl fl_X10_32 rfl dX10_morning_26 ?_
    refine r_get C hP 2 rfl fl_X10_175 rfl dX10_morning_29 ?_
    refine lv_isub hx hb dX10_morning_32 ?_
    obtain ⟨r_33, v_night_been_33, v_night_awake_33, v_night_stateOf_33, v_night_roomOf_33, v_night_how_33, v_night_thingIn_33, v_night_full_33, v_night_handOf_33, v_night_heardBy_33, v_night_passed_33, hc_33, hf⟩ := bd11 hf
    refine r_callVi (ws' := (wX10_morning E h h_reader h_inn h_chosen h_night h_marks h_notes h_casts h_inn_house h_inn_thingIn h_inn_full h_inn_states h_inn_bed h_inn_dreamOf h_inn_listensIn h_night_ways h_night_how h_night_passed h_night_dreamOf h_night_stateOf h_night_roomOf h_night_handOf h_night_awake h_night_thingIn h_night_full h_night_heardBy h_inn_house_creak h_inn_house_cold h_inn_house_one h_inn_house_other h_inn_house_how h_inn_house_falls h_inn_house_ways h_night_ways_steps h_inn_house_ways_steps v_marked v_refusal v_latestFault v_faultPlace v_inn_minutes v_inn_things v_inn_dreams v_inn_sleepers v_inn_listeners v_night_setting v_night_been_33 v_night_awake_33 v_night_dreamOf v_night_stateOf_33 v_inn_states v_night_roomOf_33 v_inn_house_rooms v_inn_house_doors v_inn_house_one v_inn_house_other v_night_how_33 v_night_thingIn_33 v_night_full_33 v_night_handOf_33 v_night_ways_rooms v_night_ways_steps v_inn_house_creak v_inn_listensIn v_inn_house_ways_rooms v_inn_house_ways_steps v_night_heardBy_33 v_inn_house_cold v_inn_house_falls v_night_passed_33)) (As := [.int (v_inn_minutes - v_night_been)]) (rest := [.ref h]) C (ctX4_pass l E h_night h_inn h_night_ways h_night_how h_night_passed h_night_dreamOf h_night_stateOf h_night_roomOf h_night_handOf h_night_awake h_night_thingIn h_night_full h_night_heardBy h_inn_house h_inn_thingIn h_inn_full h_inn_states h_inn_bed h_inn_dreamOf h_inn_listensIn h_inn_house_creak h_inn_house_cold h_inn_house_one h_inn_house_other h_inn_house_how h_inn_house_falls h_inn_house_ways h_night_ways_steps h_inn_house_ways_steps v_night_setting v_night_been v_inn_minutes v_inn_things v_inn_dreams v_inn_sleepers v_inn_listeners v_night_awake v_night_dreamOf v_night_stateOf v_inn_states v_night_roomOf v_inn_house_rooms v_inn_house_doors v_inn_house_one v_inn_house_other v_night_how v_night_thingIn v_night_full v_night_handOf v_night_ways_rooms v_night_ways_steps v_inn_house_creak v_inn_listensIn v_inn_house_ways_rooms v_inn_house_ways_steps v_night_heardBy v_inn_house_cold v_inn_house_falls v_night_passed N (v_inn_minutes - v_night_been) r_33 v_night_been_33 v_night_awake_33 v_night_stateOf_33 v_night_roomOf_33 v_night_how_33 v_night_thingIn_33 v_night_full_33 v_night_handOf_33 v_night_heardBy_33 v_night_passed_33 hc_33) ml_X10_183 ⟨Nat.le_of_ble_eq_true rfl, Nat.le_of_ble_eq_true rfl⟩ hP hD hS 2 rfl rfl rfl [2, 1, 3, 4, 5, 6, 7, 8, 9, 10, 11, 12, 13, 14, 15, 16, 17, 18, 19, 20, 21, 22, 23, 24] rfl rfl rfl rfl rfl hl.1 rfl (Nat.le_of_ble_eq_true rfl) ⟨Nat.zero_le _, Nat.zero_le _⟩ dX10_morning_33 ?_
    clear hP hD hS; intro H locs hP hD hS
    obtain ⟨r_36, v_refusal_36, hc_36, hf⟩ := bd2 hf
    refine r_callVi (ws' := (wX10_morning E h h_reader h_inn h_chosen h_night h_marks h_notes h_casts h_inn_house h_inn_thingIn h_inn_full h_inn_states h_inn_bed h_inn_dreamOf h_inn_listensIn h_night_ways h_night_how h_night_passed h_night_dreamOf h_night_stateOf h_night_roomOf h_night_handOf h_night_awake h_night_thingIn h_night_full h_night_heardBy h_inn_house_creak h_inn_house_cold h_inn_house_one h_inn_house_other h_inn_house_how h_inn_house_falls h_inn_house_ways h_night_ways_steps h_inn_house_ways_steps v_marked v_refusal_36 v_latestFault v_faultPlace v_inn_minutes v_inn_things v_inn_dreams v_inn_sleepers v_inn_listeners v_night_setting v_night_been_33 v_night_awake_33 v_night_dreamOf v_night_stateOf_33 v_inn_states v_night_roomOf_33 v_inn_house_rooms v_inn_house_doors v_inn_house_one v_inn_house_other v_night_how_33 v_night_thingIn_33 v_night_full_33 v_night_handOf_33 v_night_ways_rooms v_night_ways_steps v_inn_house_creak v_inn_listensIn v_inn_house_ways_rooms v_inn_house_ways_steps v_night_heardBy_33 v_inn_house_cold v_inn_house_falls v_night_passed_33)) (As := [.int r_33]) (rest := []) C (ctX10_answer l E h h_reader h_inn h_chosen h_night h_marks h_notes h_casts v_marked v_refusal v_latestFault v_faultPlace N r_33 r_36 v_refusal_36 hc_36) ml_X10_95 ⟨Nat.le_of_ble_eq_true rfl, Nat.le_of_ble_eq_true rfl⟩ hP hD hS 0 rfl rfl rfl [0] rfl rfl rfl rfl rfl hl.1 rfl (Nat.le_of_ble_eq_true rfl) ⟨Nat.zero_le _, Nat.zero_le _⟩ dX10_morning_36 ?_
    clear hP hD hS; intro H locs hP hD hS
    cases hf
    rw [hQ]
    exact r_iret C hr hP hD hS rfl dX10_morning_39
  · replace hf := it_t c_4 hf
    refine lv_aload_n hx hb dX10_morning_7 rfl (lv_at hl 0 rfl) ?_
    refine lv_iconst (v := 1) hx hb dX10_morning_8 (by decide) ?_
    obtain ⟨r_9, v_refusal_9, hc_9, hf⟩ := bd2 hf
    refine r_callVi (ws' := (wX10_morning E h h_reader h_inn h_chosen h_night h_marks h_notes h_casts h_inn_house h_inn_thingIn h_inn_full h_inn_states h_inn_bed h_inn_dreamOf h_inn_listensIn h_night_ways h_night_how h_night_passed h_night_dreamOf h_night_stateOf h_night_roomOf h_night_handOf h_night_awake h_night_thingIn h_night_full h_night_heardBy h_inn_house_creak h_inn_house_cold h_inn_house_one h_inn_house_other h_inn_house_how h_inn_house_falls h_inn_house_ways h_night_ways_steps h_inn_house_ways_steps v_marked v_refusal_9 v_latestFault v_faultPlace v_inn_minutes v_inn_things v_inn_dreams v_inn_sleepers v_inn_listeners v_night_setting v_night_been v_night_awake v_night_dreamOf v_night_stateOf v_inn_states v_night_roomOf v_inn_house_rooms v_inn_house_doors v_inn_house_one v_inn_house_other v_night_how v_night_thingIn v_night_full v_night_handOf v_night_ways_rooms v_night_ways_steps v_inn_house_creak v_inn_listensIn v_inn_house_ways_rooms v_inn_house_ways_steps v_night_heardBy v_inn_house_cold v_inn_house_falls v_night_passed)) (As := [.int 1]) (rest := []) C (ctX10_refuse l E h h_reader h_inn h_chosen h_night h_marks h_notes h_casts v_marked v_refusal v_latestFault v_faultPlace N 1 r_9 v_refusal_9 hc_9) ml_X10_68 ⟨Nat.le_of_ble_eq_true rfl, Nat.le_of_ble_eq_true rfl⟩ hP hD hS 0 rfl rfl rfl [0] rfl rfl rfl rfl rfl hl.1 rfl (Nat.le_of_ble_eq_true rfl) ⟨Nat.zero_le _, Nat.zero_le _⟩ dX10_morning_9 ?_
    clear hP hD hS; intro H locs hP hD hS
    cases hf
    rw [hQ]
    exact r_iret C hr hP hD hS rfl dX10_morning_12
def wX10_sleeper (E : EN) (h h_reader h_inn h_chosen h_night h_marks h_notes h_casts h_inn_house h_inn_thingIn h_inn_full h_inn_states h_inn_bed h_inn_dreamOf h_inn_listensIn h_night_ways h_night_how h_night_passed h_night_dreamOf h_night_stateOf h_night_roomOf h_night_handOf h_night_awake h_night_thingIn h_night_full h_night_heardBy : Nat) (v_marked : Int32) (v_refusal : Int32) (v_latestFault : Int32) (v_faultPlace : Int32) (v_inn_minutes : Int32) (v_inn_things : Int32) (v_inn_dreams : Int32) (v_inn_sleepers : Int32) (v_inn_listeners : Int32) (v_night_setting : Int32) (v_night_been : Int32) (v_night_dreamOf : Nat → Int32) (v_night_awake : Nat → Int32) (v_night_handOf : Nat → Int32) (v_night_stateOf : Nat → Int32) (v_night_roomOf : Nat → Int32) : va_W := [(h, .inr (9, [.ref h_reader, .ref h_inn, .ref h_chosen, .ref h_night, .ref h_marks, .int v_marked, .ref h_notes, .ref h_casts, .int v_refusal, .int v_latestFault, .int v_faultPlace])), (h_inn, .inr (2, [.ref h_inn_house, .int v_inn_minutes, .int v_inn_things, .ref h_inn_thingIn, .ref h_inn_full, .int v_inn_dreams, .ref h_inn_states, .int v_inn_sleepers, .ref h_inn_bed, .ref h_inn_dreamOf, .int v_inn_listeners, .ref h_inn_listensIn])), (h_night, .inr (4, [.ref h_inn, .int v_night_setting, .int v_night_been, .ref h_night_ways, .ref h_night_how, .ref h_night_passed, .ref h_night_dreamOf, .ref h_night_stateOf, .ref h_night_roomOf, .ref h_night_handOf, .ref h_night_awake, .ref h_night_thingIn, .ref h_night_full, .ref h_night_heardBy])), (h_night_dreamOf, aI E 3 v_night_dreamOf), (h_night_awake, aZ E 3 v_night_awake), (h_night_handOf, aI E 3 v_night_handOf), (h_night_stateOf, aI E 3 v_night_stateOf), (h_night_roomOf, aI E 3 v_night_roomOf)]
def fX10_sleeper (N : Nat) (p0 : Int32) (p1 : Int32) (v_inn_sleepers : Int32) (v_night_dreamOf : Nat → Int32) (v_night_awake : Nat → Int32) (v_night_handOf : Nat → Int32) (v_night_stateOf : Nat → Int32) (v_night_roomOf : Nat → Int32) : Option (Int32 × Int32) := (fX10_isSleeper N p0 v_inn_sleepers).bind (un1 fun (r_2 : Int32) => if r_2 = 0 then ((fX10_refuse N 1).bind (un2 fun (r_10 : Int32) (v_refusal_10 : Int32) => some (r_10, v_refusal_10))) else (if p1 = 0 then (gd p0 3 ((fX10_answer N (v_night_roomOf p0.toNatClampNeg)).bind (un2 fun (r_58 : Int32) (v_refusal_58 : Int32) => some (r_58, v_refusal_58)))) else (if p1 = 1 then (gd p0 3 ((fX10_answer N (v_night_stateOf p0.toNatClampNeg)).bind (un2 fun (r_72 : Int32) (v_refusal_72 : Int32) => some (r_72, v_refusal_72)))) else (if p1 = 2 then (gd p0 3 ((fX10_answer N (v_night_handOf p0.toNatClampNeg)).bind (un2 fun (r_86 : Int32) (v_refusal_86 : Int32) => some (r_86, v_refusal_86)))) else (if p1 = 3 then (gd p0 3 ((fX10_bit N (v_night_awake p0.toNatClampNeg)).bind (un1 fun (r_100 : Int32) => (fX10_answer N r_100).bind (un2 fun (r_103 : Int32) (v_refusal_103 : Int32) => some (r_103, v_refusal_103))))) else (if p1 = 4 then (gd p0 3 ((fX10_answer N (v_night_dreamOf p0.toNatClampNeg)).bind (un2 fun (r_117 : Int32) (v_refusal_117 : Int32) => some (r_117, v_refusal_117)))) else ((fX10_refuse N 1).bind (un2 fun (r_123 : Int32) (v_refusal_123 : Int32) => some (r_123, v_refusal_123)))))))))
set_option maxHeartbeats 4000000 in
set_option maxRecDepth 100000 in
theorem ctX10_sleeper (l : Launch) (E : EN) (h h_reader h_inn h_chosen h_night h_marks h_notes h_casts h_inn_house h_inn_thingIn h_inn_full h_inn_states h_inn_bed h_inn_dreamOf h_inn_listensIn h_night_ways h_night_how h_night_passed h_night_dreamOf h_night_stateOf h_night_roomOf h_night_handOf h_night_awake h_night_thingIn h_night_full h_night_heardBy : Nat) (v_marked : Int32) (v_refusal : Int32) (v_latestFault : Int32) (v_faultPlace : Int32) (v_inn_minutes : Int32) (v_inn_things : Int32) (v_inn_dreams : Int32) (v_inn_sleepers : Int32) (v_inn_listeners : Int32) (v_night_setting : Int32) (v_night_been : Int32) (v_night_dreamOf : Nat → Int32) (v_night_awake : Nat → Int32) (v_night_handOf : Nat → Int32) (v_night_stateOf : Nat → Int32) (v_night_roomOf : Nat → Int32) (N : Nat) (p0 : Int32) (p1 : Int32) (z0 : Int32) (z1 : Int32) (hf : fX10_sleeper N p0 p1 v_inn_sleepers v_night_dreamOf v_night_awake v_night_handOf v_night_stateOf v_night_roomOf = some (z0, z1)) : CTi l E yX10_sleeper cX10_sleeper 3 .int 2 42 [.ref h, .int p0, .int p1] (wX10_sleeper E h h_reader h_inn h_chosen h_night h_marks h_notes h_casts h_inn_house h_inn_thingIn h_inn_full h_inn_states h_inn_bed h_inn_dreamOf h_inn_listensIn h_night_ways h_night_how h_night_passed h_night_dreamOf h_night_stateOf h_night_roomOf h_night_handOf h_night_awake h_night_thingIn h_night_full h_night_heardBy v_marked v_refusal v_latestFault v_faultPlace v_inn_minutes v_inn_things v_inn_dreams v_inn_sleepers v_inn_listeners v_night_setting v_night_been v_night_dreamOf v_night_awake v_night_handOf v_night_stateOf v_night_roomOf) z0 (wX10_sleeper E h h_reader h_inn h_chosen h_night h_marks h_notes h_casts h_inn_house h_inn_thingIn h_inn_full h_inn_states h_inn_bed h_inn_dreamOf h_inn_listensIn h_night_ways h_night_how h_night_passed h_night_dreamOf h_night_stateOf h_night_roomOf h_night_handOf h_night_awake h_night_thingIn h_night_full h_night_heardBy v_marked z1 v_latestFault v_faultPlace v_inn_minutes v_inn_things v_inn_dreams v_inn_sleepers v_inn_listeners v_night_setting v_night_been v_night_dreamOf v_night_awake v_night_handOf v_night_stateOf v_night_roomOf) := by
  intro sz
  refine ct_body (by decide) (Nat.le_of_ble_eq_true rfl) ?_
  intro p e s m args below meth c A ls hAe C hr hin hP hD hS hl
  have C : CX p s m args meth c cX10_sleeper RX10 3 E A := C
  have hl : lv_has ls 3 [(0, .ref h), (1, .int p0), (2, .int p1)] := hl
  have hx := C.1
  have hb := C.2.1
  rw [hAe]
  clear hAe
  obtain ⟨Q, hQ⟩ : ∃ Q, Q = MQ below (Qi E A z0 (wX10_sleeper E h h_reader h_inn h_chosen h_night h_marks h_notes h_casts h_inn_house h_inn_thingIn h_inn_full h_inn_states h_inn_bed h_inn_dreamOf h_inn_listensIn h_night_ways h_night_how h_night_passed h_night_dreamOf h_night_stateOf h_night_roomOf h_night_handOf h_night_awake h_night_thingIn h_night_full h_night_heardBy v_marked z1 v_latestFault v_faultPlace v_inn_minutes v_inn_things v_inn_dreams v_inn_sleepers v_inn_listeners v_night_setting v_night_been v_night_dreamOf v_night_awake v_night_handOf v_night_stateOf v_night_roomOf)) args s 0 0 A := ⟨_, rfl⟩
  rw [← hQ]
  unfold fX10_sleeper at hf
  refine lv_aload_n hx hb dX10_sleeper_0 rfl (lv_at hl 0 rfl) ?_
  refine lv_iload_n hx hb dX10_sleeper_1 rfl (lv_at hl 1 rfl) ?_
  obtain ⟨r_2, hc_2, hf⟩ := bd1 hf
  refine r_callVi (ws' := (wX10_sleeper E h h_reader h_inn h_chosen h_night h_marks h_notes h_casts h_inn_house h_inn_thingIn h_inn_full h_inn_states h_inn_bed h_inn_dreamOf h_inn_listensIn h_night_ways h_night_how h_night_passed h_night_dreamOf h_night_stateOf h_night_roomOf h_night_handOf h_night_awake h_night_thingIn h_night_full h_night_heardBy v_marked v_refusal v_latestFault v_faultPlace v_inn_minutes v_inn_things v_inn_dreams v_inn_sleepers v_inn_listeners v_night_setting v_night_been v_night_dreamOf v_night_awake v_night_handOf v_night_stateOf v_night_roomOf)) (As := [.int p0]) (rest := []) C (ctX10_isSleeper l E h h_reader h_inn h_chosen h_night h_marks h_notes h_casts h_inn_house h_inn_thingIn h_inn_full h_inn_states h_inn_bed h_inn_dreamOf h_inn_listensIn v_marked v_refusal v_latestFault v_faultPlace v_inn_minutes v_inn_things v_inn_dreams v_inn_sleepers v_inn_listeners N p0 r_2 hc_2) ml_X10_167 ⟨Nat.le_of_ble_eq_true rfl, Nat.le_of_ble_eq_true rfl⟩ hP hD hS 0 rfl rfl rfl [0, 1] rfl rfl rfl rfl rfl hl.1 rfl (Nat.le_of_ble_eq_true rfl) ⟨Nat.zero_le _, Nat.zero_le _⟩ dX10_sleeper_2 ?_
  clear hP hD hS; intro H locs hP hD hS
  refine lv_if_ne (tgt := 14) hx hb dX10_sleeper_5 (by decide) (fun c_5 => ?_) (fun c_5 => ?_)
  · replace hf := it_f c_5 hf
    refine lv_iload_n hx hb dX10_sleeper_14 rfl (lv_at hl 2 rfl) ?_
    by_cases c_15_0 : p1 = 0
    · replace hf := it_t c_15_0 hf
      refine lv_tableIn (off := 33) (tgt := 48) hx hb dX10_sleeper_15 (by rw [c_15_0]; decide) (by rw [c_15_0]; decide) (by rw [c_15_0]; rfl) (by decide) ?_
      refine lv_aload_n hx hb dX10_sleeper_48 rfl (lv_at hl 0 rfl) ?_
      refine lv_aload_n hx hb dX10_sleeper_49 rfl (lv_at hl 0 rfl) ?_
      refine r_get C hP 0 rfl fl_X10_32 rfl dX10_sleeper_50 ?_
      refine r_get C hP 2 rfl fl_X10_186 rfl dX10_sleeper_53 ?_
      refine lv_iload_n hx hb dX10_sleeper_56 rfl (lv_at hl 1 rfl) ?_
      obtain ⟨hi_57, hf⟩ := gd_s hf
      refine r_iald C hP 7 rfl hi_57 dX10_sleeper_57 ?_
      obtain ⟨r_58, v_refusal_58, hc_58, hf⟩ := bd2 hf
      refine r_callVi (ws' := (wX10_sleeper E h h_reader h_inn h_chosen h_night h_marks h_notes h_casts h_inn_house h_inn_thingIn h_inn_full h_inn_states h_inn_bed h_inn_dreamOf h_inn_listensIn h_night_ways h_night_how h_night_passed h_night_dreamOf h_night_stateOf h_night_roomOf h_night_handOf h_night_awake h_night_thingIn h_night_full h_night_heardBy v_marked v_refusal_58 v_latestFault v_faultPlace v_inn_minutes v_inn_things v_inn_dreams v_inn_sleepers v_inn_listeners v_night_setting v_night_been v_night_dreamOf v_night_awake v_night_handOf v_night_stateOf v_night_roomOf)) (As := [.int (v_night_roomOf p0.toNatClampNeg)]) (rest := []) C (ctX10_answer l E h h_reader h_inn h_chosen h_night h_marks h_notes h_casts v_marked v_refusal v_latestFault v_faultPlace N (v_night_roomOf p0.toNatClampNeg) r_58 v_refusal_58 hc_58) ml_X10_95 ⟨Nat.le_of_ble_eq_true rfl, Nat.le_of_ble_eq_true rfl⟩ hP hD hS 0 rfl rfl rfl [0] rfl rfl rfl rfl rfl hl.1 rfl (Nat.le_of_ble_eq_true rfl) ⟨Nat.zero_le _, Nat.zero_le _⟩ dX10_sleeper_58 ?_
      clear hP hD hS; intro H locs hP hD hS
      cases hf
      rw [hQ]
      exact r_iret C hr hP hD hS rfl dX10_sleeper_61
    · replace hf := it_f c_15_0 hf
      by_cases c_15_1 : p1 = 1
      · replace hf := it_t c_15_1 hf
        refine lv_tableIn (off := 47) (tgt := 62) hx hb dX10_sleeper_15 (by rw [c_15_1]; decide) (by rw [c_15_1]; decide) (by rw [c_15_1]; rfl) (by decide) ?_
        refine lv_aload_n hx hb dX10_sleeper_62 rfl (lv_at hl 0 rfl) ?_
        refine lv_aload_n hx hb dX10_sleeper_63 rfl (lv_at hl 0 rfl) ?_
        refine r_get C hP 0 rfl fl_X10_32 rfl dX10_sleeper_64 ?_
        refine r_get C hP 2 rfl fl_X10_189 rfl dX10_sleeper_67 ?_
        refine lv_iload_n hx hb dX10_sleeper_70 rfl (lv_at hl 1 rfl) ?_
        obtain ⟨hi_71, hf⟩ := gd_s hf
        refine r_iald C hP 6 rfl hi_71 dX10_sleeper_71 ?_
        obtain ⟨r_72, v_refusal_72, hc_72, hf⟩ := bd2 hf
        refine r_callVi (ws' := (wX10_sleeper E h h_reader h_inn h_chosen h_night h_marks h_notes h_casts h_inn_house h_inn_thingIn h_inn_full h_inn_states h_inn_bed h_inn_dreamOf h_inn_listensIn h_night_ways h_night_how h_night_passed h_night_dreamOf h_night_stateOf h_night_roomOf h_night_handOf h_night_awake h_night_thingIn h_night_full h_night_heardBy v_marked v_refusal_72 v_latestFault v_faultPlace v_inn_minutes v_inn_things v_inn_dreams v_inn_sleepers v_inn_listeners v_night_setting v_night_been v_night_dreamOf v_night_awake v_night_handOf v_night_stateOf v_night_roomOf)) (As := [.int (v_night_stateOf p0.toNatClampNeg)]) (rest := []) C (ctX10_answer l E h h_reader h_inn h_chosen h_night h_marks h_notes h_casts v_marked v_refusal v_latestFault v_faultPlace N (v_night_stateOf p0.toNatClampNeg) r_72 v_refusal_72 hc_72) ml_X10_95 ⟨Nat.le_of_ble_eq_true rfl, Nat.le_of_ble_eq_true rfl⟩ hP hD hS 0 rfl rfl rfl [0] rfl rfl rfl rfl rfl hl.1 rfl (Nat.le_of_ble_eq_true rfl) ⟨Nat.zero_le _, Nat.zero_le _⟩ dX10_sleeper_72 ?_
        clear hP hD hS; intro H locs hP hD hS
        cases hf
        rw [hQ]
        exact r_iret C hr hP hD hS rfl dX10_sleeper_75
      · replace hf := it_f c_15_1 hf
        by_cases c_15_2 : p1 = 2
        · replace hf := it_t c_15_2 hf
          refine lv_tableIn (off := 61) (tgt := 76) hx hb dX10_sleeper_15 (by rw [c_15_2]; decide) (by rw [c_15_2]; decide) (by rw [c_15_2]; rfl) (by decide) ?_
          refine lv_aload_n hx hb dX10_sleeper_76 rfl (lv_at hl 0 rfl) ?_
          refine lv_aload_n hx hb dX10_sleeper_77 rfl (lv_at hl 0 rfl) ?_
          refine r_get C hP 0 rfl fl_X10_32 rfl dX10_sleeper_78 ?_
          refine r_get C hP 2 rfl fl_X10_192 rfl dX10_sleeper_81 ?_
          refine lv_iload_n hx hb dX10_sleeper_84 rfl (lv_at hl 1 rfl) ?_
          obtain ⟨hi_85, hf⟩ := gd_s hf
          refine r_iald C hP 5 rfl hi_85 dX10_sleeper_85 ?_
          obtain ⟨r_86, v_refusal_86, hc_86, hf⟩ := bd2 hf
          refine r_callVi (ws' := (wX10_sleeper E h h_reader h_inn h_chosen h_night h_marks h_notes h_casts h_inn_house h_inn_thingIn h_inn_full h_inn_states h_inn_bed h_inn_dreamOf h_inn_listensIn h_night_ways h_night_how h_night_passed h_night_dreamOf h_night_stateOf h_night_roomOf h_night_handOf h_night_awake h_night_thingIn h_night_full h_night_heardBy v_marked v_refusal_86 v_latestFault v_faultPlace v_inn_minutes v_inn_things v_inn_dreams v_inn_sleepers v_inn_listeners v_night_setting v_night_been v_night_dreamOf v_night_awake v_night_handOf v_night_stateOf v_night_roomOf)) (As := [.int (v_night_handOf p0.toNatClampNeg)]) (rest := []) C (ctX10_answer l E h h_reader h_inn h_chosen h_night h_marks h_notes h_casts v_marked v_refusal v_latestFault v_faultPlace N (v_night_handOf p0.toNatClampNeg) r_86 v_refusal_86 hc_86) ml_X10_95 ⟨Nat.le_of_ble_eq_true rfl, Nat.le_of_ble_eq_true rfl⟩ hP hD hS 0 rfl rfl rfl [0] rfl rfl rfl rfl rfl hl.1 rfl (Nat.le_of_ble_eq_true rfl) ⟨Nat.zero_le _, Nat.zero_le _⟩ dX10_sleeper_86 ?_
          clear hP hD hS; intro H locs hP hD hS
          cases hf
          rw [hQ]
          exact r_iret C hr hP hD hS rfl dX10_sleeper_89
        · replace hf := it_f c_15_2 hf
          by_cases c_15_3 : p1 = 3
          · replace hf := it_t c_15_3 hf
            refine lv_tableIn (off := 75) (tgt := 90) hx hb dX10_sleeper_15 (by rw [c_15_3]; decide) (by rw [c_15_3]; decide) (by rw [c_15_3]; rfl) (by decide) ?_
            refine lv_aload_n hx hb dX10_sleeper_90 rfl (lv_at hl 0 rfl) ?_
            refine lv_aload_n hx hb dX10_sleeper_91 rfl (lv_at hl 0 rfl) ?_
            refine r_get C hP 0 rfl fl_X10_32 rfl dX10_sleeper_92 ?_
            refine r_get C hP 2 rfl fl_X10_195 rfl dX10_sleeper_95 ?_
            refine lv_iload_n hx hb dX10_sleeper_98 rfl (lv_at hl 1 rfl) ?_
            obtain ⟨hi_99, hf⟩ := gd_s hf
            refine r_zald C hP 4 rfl hi_99 dX10_sleeper_99 ?_
            obtain ⟨r_100, hc_100, hf⟩ := bd1 hf
            refine r_callSi (ws' := (wX10_sleeper E h h_reader h_inn h_chosen h_night h_marks h_notes h_casts h_inn_house h_inn_thingIn h_inn_full h_inn_states h_inn_bed h_inn_dreamOf h_inn_listensIn h_night_ways h_night_how h_night_passed h_night_dreamOf h_night_stateOf h_night_roomOf h_night_handOf h_night_awake h_night_thingIn h_night_full h_night_heardBy v_marked v_refusal v_latestFault v_faultPlace v_inn_minutes v_inn_things v_inn_dreams v_inn_sleepers v_inn_listeners v_night_setting v_night_been v_night_dreamOf v_night_awake v_night_handOf v_night_stateOf v_night_roomOf)) (As := [.int (v_night_awake p0.toNatClampNeg)]) (rest := [.ref h]) C (ctX10_bit l E N (v_night_awake p0.toNatClampNeg) r_100 hc_100) ml_X10_132 ⟨Nat.le_of_ble_eq_true rfl, Nat.le_of_ble_eq_true rfl⟩ hP hD hS [] rfl rfl rfl rfl rfl hl.1 rfl (Nat.le_of_ble_eq_true rfl) ⟨Nat.zero_le _, Nat.zero_le _⟩ dX10_sleeper_100 ?_
            clear hP hD hS; intro H locs hP hD hS
            obtain ⟨r_103, v_refusal_103, hc_103, hf⟩ := bd2 hf
            refine r_callVi (ws' := (wX10_sleeper E h h_reader h_inn h_chosen h_night h_marks h_notes h_casts h_inn_house h_inn_thingIn h_inn_full h_inn_states h_inn_bed h_inn_dreamOf h_inn_listensIn h_night_ways h_night_how h_night_passed h_night_dreamOf h_night_stateOf h_night_roomOf h_night_handOf h_night_awake h_night_thingIn h_night_full h_night_heardBy v_marked v_refusal_103 v_latestFault v_faultPlace v_inn_minutes v_inn_things v_inn_dreams v_inn_sleepers v_inn_listeners v_night_setting v_night_been v_night_dreamOf v_night_awake v_night_handOf v_night_stateOf v_night_roomOf)) (As := [.int r_100]) (rest := []) C (ctX10_answer l E h h_reader h_inn h_chosen h_night h_marks h_notes h_casts v_marked v_refusal v_latestFault v_faultPlace N r_100 r_103 v_refusal_103 hc_103) ml_X10_95 ⟨Nat.le_of_ble_eq_true rfl, Nat.le_of_ble_eq_true rfl⟩ hP hD hS 0 rfl rfl rfl [0] rfl rfl rfl rfl rfl hl.1 rfl (Nat.le_of_ble_eq_true rfl) ⟨Nat.zero_le _, Nat.zero_le _⟩ dX10_sleeper_103 ?_
            clear hP hD hS; intro H locs hP hD hS
            cases hf
            rw [hQ]
            exact r_iret C hr hP hD hS rfl dX10_sleeper_106
          · replace hf := it_f c_15_3 hf
            by_cases c_15_4 : p1 = 4
            · replace hf := it_t c_15_4 hf
              refine lv_tableIn (off := 92) (tgt := 107) hx hb dX10_sleeper_15 (by rw [c_15_4]; decide) (by rw [c_15_4]; decide) (by rw [c_15_4]; rfl) (by decide) ?_
              refine lv_aload_n hx hb dX10_sleeper_107 rfl (lv_at hl 0 rfl) ?_
              refine lv_aload_n hx hb dX10_sleeper_108 rfl (lv_at hl 0 rfl) ?_
              refine r_get C hP 0 rfl fl_X10_32 rfl dX10_sleeper_109 ?_
              refine r_get C hP 2 rfl fl_X10_198 rfl dX10_sleeper_112 ?_
              refine lv_iload_n hx hb dX10_sleeper_115 rfl (lv_at hl 1 rfl) ?_
              obtain ⟨hi_116, hf⟩ := gd_s hf
              refine r_iald C hP 3 rfl hi_116 dX10_sleeper_116 ?_
              obtain ⟨r_117, v_refusal_117, hc_117, hf⟩ := bd2 hf
              refine r_callVi (ws' := (wX10_sleeper E h h_reader h_inn h_chosen h_night h_marks h_notes h_casts h_inn_house h_inn_thingIn h_inn_full h_inn_states h_inn_bed h_inn_dreamOf h_inn_listensIn h_night_ways h_night_how h_night_passed h_night_dreamOf h_night_stateOf h_night_roomOf h_night_handOf h_night_awake h_night_thingIn h_night_full h_night_heardBy v_marked v_refusal_117 v_latestFault v_faultPlace v_inn_minutes v_inn_things v_inn_dreams v_inn_sleepers v_inn_listeners v_night_setting v_night_been v_night_dreamOf v_night_awake v_night_handOf v_night_stateOf v_night_roomOf)) (As := [.int (v_night_dreamOf p0.toNatClampNeg)]) (rest := []) C (ctX10_answer l E h h_reader h_inn h_chosen h_night h_marks h_notes h_casts v_marked v_refusal v_latestFault v_faultPlace N (v_night_dreamOf p0.toNatClampNeg) r_117 v_refusal_117 hc_117) ml_X10_95 ⟨Nat.le_of_ble_eq_true rfl, Nat.le_of_ble_eq_true rfl⟩ hP hD hS 0 rfl rfl rfl [0] rfl rfl rfl rfl rfl hl.1 rfl (Nat.le_of_ble_eq_true rfl) ⟨Nat.zero_le _, Nat.zero_le _⟩ dX10_sleeper_117 ?_
              clear hP hD hS; intro H locs hP hD hS
              cases hf
              rw [hQ]
              exact r_iret C hr hP hD hS rfl dX10_sleeper_120
            · replace hf := it_f c_15_4 hf
              refine lv_tableOut (tgt := 121) hx hb dX10_sleeper_15 (by have g0 := lv_neT (a := 0) c_15_0 (by decide); have g1 := lv_neT (a := 1) c_15_1 (by decide); have g2 := lv_neT (a := 2) c_15_2 (by decide); have g3 := lv_neT (a := 3) c_15_3 (by decide); have g4 := lv_neT (a := 4) c_15_4 (by decide); omega) (by decide) ?_
              refine lv_aload_n hx hb dX10_sleeper_121 rfl (lv_at hl 0 rfl) ?_
              refine lv_iconst (v := 1) hx hb dX10_sleeper_122 (by decide) ?_
              obtain ⟨r_123, v_refusal_123, hc_123, hf⟩ := bd2 hf
              refine r_callVi (ws' := (wX10_sleeper E h h_reader h_inn h_chosen h_night h_marks h_notes h_casts h_inn_house h_inn_thingIn h_inn_full h_inn_states h_inn_bed h_inn_dreamOf h_inn_listensIn h_night_ways h_night_how h_night_passed h_night_dreamOf h_night_stateOf h_night_roomOf h_night_handOf h_night_awake h_night_thingIn h_night_full h_night_heardBy v_marked v_refusal_123 v_latestFault v_faultPlace v_inn_minutes v_inn_things v_inn_dreams v_inn_sleepers v_inn_listeners v_night_setting v_night_been v_night_dreamOf v_night_awake v_night_handOf v_night_stateOf v_night_roomOf)) (As := [.int 1]) (rest := []) C (ctX10_refuse l E h h_reader h_inn h_chosen h_night h_marks h_notes h_casts v_marked v_refusal v_latestFault v_faultPlace N 1 r_123 v_refusal_123 hc_123) ml_X10_68 ⟨Nat.le_of_ble_eq_true rfl, Nat.le_of_ble_eq_true rfl⟩ hP hD hS 0 rfl rfl rfl [0] rfl rfl rfl rfl rfl hl.1 rfl (Nat.le_of_ble_eq_true rfl) ⟨Nat.zero_le _, Nat.zero_le _⟩ dX10_sleeper_123 ?_
              clear hP hD hS; intro H locs hP hD hS
              cases hf
              rw [hQ]
              exact r_iret C hr hP hD hS rfl dX10_sleeper_126
  · replace hf := it_t c_5 hf
    refine lv_aload_n hx hb dX10_sleeper_8 rfl (lv_at hl 0 rfl) ?_
    refine lv_iconst (v := 1) hx hb dX10_sleeper_9 (by decide) ?_
    obtain ⟨r_10, v_refusal_10, hc_10, hf⟩ := bd2 hf
    refine r_callVi (ws' := (wX10_sleeper E h h_reader h_inn h_chosen h_night h_marks h_notes h_casts h_inn_house h_inn_thingIn h_inn_full h_inn_states h_inn_bed h_inn_dreamOf h_inn_listensIn h_night_ways h_night_how h_night_passed h_night_dreamOf h_night_stateOf h_night_roomOf h_night_handOf h_night_awake h_night_thingIn h_night_full h_night_heardBy v_marked v_refusal_10 v_latestFault v_faultPlace v_inn_minutes v_inn_things v_inn_dreams v_inn_sleepers v_inn_listeners v_night_setting v_night_been v_night_dreamOf v_night_awake v_night_handOf v_night_stateOf v_night_roomOf)) (As := [.int 1]) (rest := []) C (ctX10_refuse l E h h_reader h_inn h_chosen h_night h_marks h_notes h_casts v_marked v_refusal v_latestFault v_faultPlace N 1 r_10 v_refusal_10 hc_10) ml_X10_68 ⟨Nat.le_of_ble_eq_true rfl, Nat.le_of_ble_eq_true rfl⟩ hP hD hS 0 rfl rfl rfl [0] rfl rfl rfl rfl rfl hl.1 rfl (Nat.le_of_ble_eq_true rfl) ⟨Nat.zero_le _, Nat.zero_le _⟩ dX10_sleeper_10 ?_
    clear hP hD hS; intro H locs hP hD hS
    cases hf
    rw [hQ]
    exact r_iret C hr hP hD hS rfl dX10_sleeper_13
def wX10_isThing (E : EN) (h h_reader h_inn h_chosen h_night h_marks h_notes h_casts h_inn_house h_inn_thingIn h_inn_full h_inn_states h_inn_bed h_inn_dreamOf h_inn_listensIn : Nat) (v_marked : Int32) (v_refusal : Int32) (v_latestFault : Int32) (v_faultPlace : Int32) (v_inn_minutes : Int32) (v_inn_things : Int32) (v_inn_dreams : Int32) (v_inn_sleepers : Int32) (v_inn_listeners : Int32) : va_W := [(h, .inr (9, [.ref h_reader, .ref h_inn, .ref h_chosen, .ref h_night, .ref h_marks, .int v_marked, .ref h_notes, .ref h_casts, .int v_refusal, .int v_latestFault, .int v_faultPlace])), (h_inn, .inr (2, [.ref h_inn_house, .int v_inn_minutes, .int v_inn_things, .ref h_inn_thingIn, .ref h_inn_full, .int v_inn_dreams, .ref h_inn_states, .int v_inn_sleepers, .ref h_inn_bed, .ref h_inn_dreamOf, .int v_inn_listeners, .ref h_inn_listensIn]))]
def fX10_isThing (N : Nat) (p0 : Int32) (v_inn_things : Int32) : Option Int32 := (fX10_isBelow N p0 v_inn_things).bind (un1 fun (r_8 : Int32) => zg r_8 (some r_8))
set_option maxHeartbeats 4000000 in
set_option maxRecDepth 100000 in
theorem ctX10_isThing (l : Launch) (E : EN) (h h_reader h_inn h_chosen h_night h_marks h_notes h_casts h_inn_house h_inn_thingIn h_inn_full h_inn_states h_inn_bed h_inn_dreamOf h_inn_listensIn : Nat) (v_marked : Int32) (v_refusal : Int32) (v_latestFault : Int32) (v_faultPlace : Int32) (v_inn_minutes : Int32) (v_inn_things : Int32) (v_inn_dreams : Int32) (v_inn_sleepers : Int32) (v_inn_listeners : Int32) (N : Nat) (p0 : Int32) (z0 : Int32) (hf : fX10_isThing N p0 v_inn_things = some z0) : CTi l E yX10_isThing cX10_isThing 2 .boolean 1 21 [.ref h, .int p0] (wX10_isThing E h h_reader h_inn h_chosen h_night h_marks h_notes h_casts h_inn_house h_inn_thingIn h_inn_full h_inn_states h_inn_bed h_inn_dreamOf h_inn_listensIn v_marked v_refusal v_latestFault v_faultPlace v_inn_minutes v_inn_things v_inn_dreams v_inn_sleepers v_inn_listeners) z0 (wX10_isThing E h h_reader h_inn h_chosen h_night h_marks h_notes h_casts h_inn_house h_inn_thingIn h_inn_full h_inn_states h_inn_bed h_inn_dreamOf h_inn_listensIn v_marked v_refusal v_latestFault v_faultPlace v_inn_minutes v_inn_things v_inn_dreams v_inn_sleepers v_inn_listeners) := by
  intro sz
  refine ct_body (by decide) (Nat.le_of_ble_eq_true rfl) ?_
  intro p e s m args below meth c A ls hAe C hr hin hP hD hS hl
  have C : CX p s m args meth c cX10_isThing RX10 2 E A := C
  have hl : lv_has ls 2 [(0, .ref h), (1, .int p0)] := hl
  have hx := C.1
  have hb := C.2.1
  rw [hAe]
  clear hAe
  obtain ⟨Q, hQ⟩ : ∃ Q, Q = MQ below (Qi E A z0 (wX10_isThing E h h_reader h_inn h_chosen h_night h_marks h_notes h_casts h_inn_house h_inn_thingIn h_inn_full h_inn_states h_inn_bed h_inn_dreamOf h_inn_listensIn v_marked v_refusal v_latestFault v_faultPlace v_inn_minutes v_inn_things v_inn_dreams v_inn_sleepers v_inn_listeners)) args s 0 0 A := ⟨_, rfl⟩
  rw [← hQ]
  unfold fX10_isThing at hf
  refine lv_iload_n hx hb dX10_isThing_0 rfl (lv_at hl 1 rfl) ?_
  refine lv_aload_n hx hb dX10_isThing_1 rfl (lv_at hl 0 rfl) ?_
  refine r_get C hP 0 rfl fl_X10_19 rfl dX10_isThing_2 ?_
  refine r_get C hP 1 rfl fl_X10_313 rfl dX10_isThing_5 ?_
  obtain ⟨r_8, hc_8, hf⟩ := bd1 hf
  refine r_callSi (ws' := (wX10_isThing E h h_reader h_inn h_chosen h_night h_marks h_notes h_casts h_inn_house h_inn_thingIn h_inn_full h_inn_states h_inn_bed h_inn_dreamOf h_inn_listensIn v_marked v_refusal v_latestFault v_faultPlace v_inn_minutes v_inn_things v_inn_dreams v_inn_sleepers v_inn_listeners)) (As := [.int p0, .int v_inn_things]) (rest := []) C (ctX10_isBelow l E N p0 v_inn_things r_8 hc_8) ml_X10_121 ⟨Nat.le_of_ble_eq_true rfl, Nat.le_of_ble_eq_true rfl⟩ hP hD hS [] rfl rfl rfl rfl rfl hl.1 rfl (Nat.le_of_ble_eq_true rfl) ⟨Nat.zero_le _, Nat.zero_le _⟩ dX10_isThing_8 ?_
  clear hP hD hS; intro H locs hP hD hS
  obtain ⟨hz_11, hf⟩ := zg_s hf
  cases hf
  rw [hQ]
  exact r_zret C hr hP hD hS hz_11 rfl dX10_isThing_11
def wX10_thing (E : EN) (h h_reader h_inn h_chosen h_night h_marks h_notes h_casts h_inn_house h_inn_thingIn h_inn_full h_inn_states h_inn_bed h_inn_dreamOf h_inn_listensIn h_night_ways h_night_how h_night_passed h_night_dreamOf h_night_stateOf h_night_roomOf h_night_handOf h_night_awake h_night_thingIn h_night_full h_night_heardBy : Nat) (v_marked : Int32) (v_refusal : Int32) (v_latestFault : Int32) (v_faultPlace : Int32) (v_inn_minutes : Int32) (v_inn_things : Int32) (v_inn_dreams : Int32) (v_inn_sleepers : Int32) (v_inn_listeners : Int32) (v_night_setting : Int32) (v_night_been : Int32) (v_night_handOf : Nat → Int32) (v_night_full : Nat → Int32) (v_night_thingIn : Nat → Int32) : va_W := [(h, .inr (9, [.ref h_reader, .ref h_inn, .ref h_chosen, .ref h_night, .ref h_marks, .int v_marked, .ref h_notes, .ref h_casts, .int v_refusal, .int v_latestFault, .int v_faultPlace])), (h_inn, .inr (2, [.ref h_inn_house, .int v_inn_minutes, .int v_inn_things, .ref h_inn_thingIn, .ref h_inn_full, .int v_inn_dreams, .ref h_inn_states, .int v_inn_sleepers, .ref h_inn_bed, .ref h_inn_dreamOf, .int v_inn_listeners, .ref h_inn_listensIn])), (h_night, .inr (4, [.ref h_inn, .int v_night_setting, .int v_night_been, .ref h_night_ways, .ref h_night_how, .ref h_night_passed, .ref h_night_dreamOf, .ref h_night_stateOf, .ref h_night_roomOf, .ref h_night_handOf, .ref h_night_awake, .ref h_night_thingIn, .ref h_night_full, .ref h_night_heardBy])), (h_night_handOf, aI E 3 v_night_handOf), (h_night_full, aZ E 4 v_night_full), (h_night_thingIn, aI E 4 v_night_thingIn)]
def fX10_thing (N : Nat) (p0 : Int32) (p1 : Int32) (v_inn_things : Int32) (v_inn_sleepers : Int32) (v_night_handOf : Nat → Int32) (v_night_full : Nat → Int32) (v_night_thingIn : Nat → Int32) : Option (Int32 × Int32) := (fX10_isThing N p0 v_inn_things).bind (un1 fun (r_2 : Int32) => if r_2 = 0 then ((fX10_refuse N 1).bind (un2 fun (r_10 : Int32) (v_refusal_10 : Int32) => some (r_10, v_refusal_10))) else (if p1 = 0 then (gd p0 4 ((fX10_answer N (v_night_thingIn p0.toNatClampNeg)).bind (un2 fun (r_50 : Int32) (v_refusal_50 : Int32) => some (r_50, v_refusal_50)))) else (if p1 = 1 then (gd p0 4 ((fX10_bit N (v_night_full p0.toNatClampNeg)).bind (un1 fun (r_64 : Int32) => (fX10_answer N r_64).bind (un2 fun (r_67 : Int32) (v_refusal_67 : Int32) => some (r_67, v_refusal_67))))) else (if p1 = 2 then ((fX4_holderOf N p0 v_inn_sleepers v_night_handOf).bind (un1 fun (r_77 : Int32) => (fX10_answer N r_77).bind (un2 fun (r_80 : Int32) (v_refusal_80 : Int32) => some (r_80, v_refusal_80)))) else ((fX10_refuse N 1).bind (un2 fun (r_86 : Int32) (v_refusal_86 : Int32) => some (r_86, v_refusal_86)))))))
set_option maxHeartbeats 4000000 in
set_option maxRecDepth 100000 in
theorem ctX10_thing (l : Launch) (E : EN) (h h_reader h_inn h_chosen h_night h_marks h_notes h_casts h_inn_house h_inn_thingIn h_inn_full h_inn_states h_inn_bed h_inn_dreamOf h_inn_listensIn h_night_ways h_night_how h_night_passed h_night_dreamOf h_night_stateOf h_night_roomOf h_night_handOf h_night_awake h_night_thingIn h_night_full h_night_heardBy : Nat) (v_marked : Int32) (v_refusal : Int32) (v_latestFault : Int32) (v_faultPlace : Int32) (v_inn_minutes : Int32) (v_inn_things : Int32) (v_inn_dreams : Int32) (v_inn_sleepers : Int32) (v_inn_listeners : Int32) (v_night_setting : Int32) (v_night_been : Int32) (v_night_handOf : Nat → Int32) (v_night_full : Nat → Int32) (v_night_thingIn : Nat → Int32) (N : Nat) (p0 : Int32) (p1 : Int32) (z0 : Int32) (z1 : Int32) (hf : fX10_thing N p0 p1 v_inn_things v_inn_sleepers v_night_handOf v_night_full v_night_thingIn = some (z0, z1)) : CTi l E yX10_thing cX10_thing 3 .int 2 42 [.ref h, .int p0, .int p1] (wX10_thing E h h_reader h_inn h_chosen h_night h_marks h_notes h_casts h_inn_house h_inn_thingIn h_inn_full h_inn_states h_inn_bed h_inn_dreamOf h_inn_listensIn h_night_ways h_night_how h_night_passed h_night_dreamOf h_night_stateOf h_night_roomOf h_night_handOf h_night_awake h_night_thingIn h_night_full h_night_heardBy v_marked v_refusal v_latestFault v_faultPlace v_inn_minutes v_inn_things v_inn_dreams v_inn_sleepers v_inn_listeners v_night_setting v_night_been v_night_handOf v_night_full v_night_thingIn) z0 (wX10_thing E h h_reader h_inn h_chosen h_night h_marks h_notes h_casts h_inn_house h_inn_thingIn h_inn_full h_inn_states h_inn_bed h_inn_dreamOf h_inn_listensIn h_night_ways h_night_how h_night_passed h_night_dreamOf h_night_stateOf h_night_roomOf h_night_handOf h_night_awake h_night_thingIn h_night_full h_night_heardBy v_marked z1 v_latestFault v_faultPlace v_inn_minutes v_inn_things v_inn_dreams v_inn_sleepers v_inn_listeners v_night_setting v_night_been v_night_handOf v_night_full v_night_thingIn) := by
  intro sz
  refine ct_body (by decide) (Nat.le_of_ble_eq_true rfl) ?_
  intro p e s m args below meth c A ls hAe C hr hin hP hD hS hl
  have C : CX p s m args meth c cX10_thing RX10 3 E A := C
  have hl : lv_has ls 3 [(0, .ref h), (1, .int p0), (2, .int p1)] := hl
  have hx := C.1
  have hb := C.2.1
  rw [hAe]
  clear hAe
  obtain ⟨Q, hQ⟩ : ∃ Q, Q = MQ below (Qi E A z0 (wX10_thing E h h_reader h_inn h_chosen h_night h_marks h_notes h_casts h_inn_house h_inn_thingIn h_inn_full h_inn_states h_inn_bed h_inn_dreamOf h_inn_listensIn h_night_ways h_night_how h_night_passed h_night_dreamOf h_night_stateOf h_night_roomOf h_night_handOf h_night_awake h_night_thingIn h_night_full h_night_heardBy v_marked z1 v_latestFault v_faultPlace v_inn_minutes v_inn_things v_inn_dreams v_inn_sleepers v_inn_listeners v_night_setting v_night_been v_night_handOf v_night_full v_night_thingIn)) args s 0 0 A := ⟨_, rfl⟩
  rw [← hQ]
  unfold fX10_thing at hf
  refine lv_aload_n hx hb dX10_thing_0 rfl (lv_at hl 0 rfl) ?_
  refine lv_iload_n hx hb dX10_thing_1 rfl (lv_at hl 1 rfl) ?_
  obtain ⟨r_2, hc_2, hf⟩ := bd1 hf
  refine r_callVi (ws' := (wX10_thing E h h_reader h_inn h_chosen h_night h_marks h_notes h_casts h_inn_house h_inn_thingIn h_inn_full h_inn_states h_inn_bed h_inn_dreamOf h_inn_listensIn h_night_ways h_night_how h_night_passed h_night_dreamOf h_night_stateOf h_night_roomOf h_night_handOf h_night_awake h_night_thingIn h_night_full h_night_heardBy v_marked v_refusal v_latestFault v_faultPlace v_inn_minutes v_inn_things v_inn_dreams v_inn_sleepers v_inn_listeners v_night_setting v_night_been v_night_handOf v_night_full v_night_thingIn)) (As := [.int p0]) (rest := []) C (ctX10_isThing l E h h_reader h_inn h_chosen h_night h_marks h_notes h_casts h_inn_house h_inn_thingIn h_inn_full h_inn_states h_inn_bed h_inn_dreamOf h_inn_listensIn v_marked v_refusal v_latestFault v_faultPlace v_inn_minutes v_inn_things v_inn_dreams v_inn_sleepers v_inn_listeners N p0 r_2 hc_2) ml_X10_201 ⟨Nat.le_of_ble_eq_true rfl, Nat.le_of_ble_eq_true rfl⟩ hP hD hS 0 rfl rfl rfl [0, 1] rfl rfl rfl rfl rfl hl.1 rfl (Nat.le_of_ble_eq_true rfl) ⟨Nat.zero_le _, Nat.zero_le _⟩ dX10_thing_2 ?_
  clear hP hD hS; intro H locs hP hD hS
  refine lv_if_ne (tgt := 14) hx hb dX10_thing_5 (by decide) (fun c_5 => ?_) (fun c_5 => ?_)
  · replace hf := it_f c_5 hf
    refine lv_iload_n hx hb dX10_thing_14 rfl (lv_at hl 2 rfl) ?_
    by_cases c_15_0 : p1 = 0
    · replace hf := it_t c_15_0 hf
      refine lv_tableIn (off := 25) (tgt := 40) hx hb dX10_thing_15 (by rw [c_15_0]; decide) (by rw [c_15_0]; decide) (by rw [c_15_0]; rfl) (by decide) ?_
      refine lv_aload_n hx hb dX10_thing_40 rfl (lv_at hl 0 rfl) ?_
      refine lv_aload_n hx hb dX10_thing_41 rfl (lv_at hl 0 rfl) ?_
      refine r_get C hP 0 rfl fl_X10_32 rfl dX10_thing_42 ?_
      refine r_get C hP 2 rfl fl_X10_204 rfl dX10_thing_45 ?_
      refine lv_iload_n hx hb dX10_thing_48 rfl (lv_at hl 1 rfl) ?_
      obtain ⟨hi_49, hf⟩ := gd_s hf
      refine r_iald C hP 5 rfl hi_49 dX10_thing_49 ?_
      obtain ⟨r_50, v_refusal_50, hc_50, hf⟩ := bd2 hf
      refine r_callVi (ws' := (wX10_thing E h h_reader h_inn h_chosen h_night h_marks h_notes h_casts h_inn_house h_inn_thingIn h_inn_full h_inn_states h_inn_bed h_inn_dreamOf h_inn_listensIn h_night_ways h_night_how h_night_passed h_night_dreamOf h_night_stateOf h_night_roomOf h_night_handOf h_night_awake h_night_thingIn h_night_full h_night_heardBy v_marked v_refusal_50 v_latestFault v_faultPlace v_inn_minutes v_inn_things v_inn_dreams v_inn_sleepers v_inn_listeners v_night_setting v_night_been v_night_handOf v_night_full v_night_thingIn)) (As := [.int (v_night_thingIn p0.toNatClampNeg)]) (rest := []) C (ctX10_answer l E h h_reader h_inn h_chosen h_night h_marks h_notes h_casts v_marked v_refusal v_latestFault v_faultPlace N (v_night_thingIn p0.toNatClampNeg) r_50 v_refusal_50 hc_50) ml_X10_95 ⟨Nat.le_of_ble_eq_true rfl, Nat.le_of_ble_eq_true rfl⟩ hP hD hS 0 rfl rfl rfl [0] rfl rfl rfl rfl rfl hl.1 rfl (Nat.le_of_ble_eq_true rfl) ⟨Nat.zero_le _, Nat.zero_le _⟩ dX10_thing_50 ?_
      clear hP hD hS; intro H locs hP hD hS
      cases hf
      rw [hQ]
      exact r_iret C hr hP hD hS rfl dX10_thing_53
    · replace hf := it_f c_15_0 hf
      by_cases c_15_1 : p1 = 1
      · replace hf := it_t c_15_1 hf
        refine lv_tableIn (off := 39) (tgt := 54) hx hb dX10_thing_15 (by rw [c_15_1]; decide) (by rw [c_15_1]; decide) (by rw [c_15_1]; rfl) (by decide) ?_
        refine lv_aload_n hx hb dX10_thing_54 rfl (lv_at hl 0 rfl) ?_
        refine lv_aload_n hx hb dX10_thing_55 rfl (lv_at hl 0 rfl) ?_
        refine r_get C hP 0 rfl fl_X10_32 rfl dX10_thing_56 ?_
        refine r_get C hP 2 rfl fl_X10_207 rfl dX10_thing_59 ?_
        refine lv_iload_n hx hb dX10_thing_62 rfl (lv_at hl 1 rfl) ?_
        obtain ⟨hi_63, hf⟩ := gd_s hf
        refine r_zald C hP 4 rfl hi_63 dX10_thing_63 ?_
        obtain ⟨r_64, hc_64, hf⟩ := bd1 hf
        refine r_callSi (ws' := (wX10_thing E h h_reader h_inn h_chosen h_night h_marks h_notes h_casts h_inn_house h_inn_thingIn h_inn_full h_inn_states h_inn_bed h_inn_dreamOf h_inn_listensIn h_night_ways h_night_how h_night_passed h_night_dreamOf h_night_stateOf h_night_roomOf h_night_handOf h_night_awake h_night_thingIn h_night_full h_night_heardBy v_marked v_refusal v_latestFault v_faultPlace v_inn_minutes v_inn_things v_inn_dreams v_inn_sleepers v_inn_listeners v_night_setting v_night_been v_night_handOf v_night_full v_night_thingIn)) (As := [.int (v_night_full p0.toNatClampNeg)]) (rest := [.ref h]) C (ctX10_bit l E N (v_night_full p0.toNatClampNeg) r_64 hc_64) ml_X10_132 ⟨Nat.le_of_ble_eq_true rfl, Nat.le_of_ble_eq_true rfl⟩ hP hD hS [] rfl rfl rfl rfl rfl hl.1 rfl (Nat.le_of_ble_eq_true rfl) ⟨Nat.zero_le _, Nat.zero_le _⟩ dX10_thing_64 ?_
        clear hP hD hS; intro H locs hP hD hS
        obtain ⟨r_67, v_refusal_67, hc_67, hf⟩ := bd2 hf
        refine r_callVi (ws' := (wX10_thing E h h_reader h_inn h_chosen h_night h_marks h_notes h_casts h_inn_house h_inn_thingIn h_inn_full h_inn_states h_inn_bed h_inn_dreamOf h_inn_listensIn h_night_ways h_night_how h_night_passed h_night_dreamOf h_night_stateOf h_night_roomOf h_night_handOf h_night_awake h_night_thingIn h_night_full h_night_heardBy v_marked v_refusal_67 v_latestFault v_faultPlace v_inn_minutes v_inn_things v_inn_dreams v_inn_sleepers v_inn_listeners v_night_setting v_night_been v_night_handOf v_night_full v_night_thingIn)) (As := [.int r_64]) (rest := []) C (ctX10_answer l E h h_reader h_inn h_chosen h_night h_marks h_notes h_casts v_marked v_refusal v_latestFault v_faultPlace N r_64 r_67 v_refusal_67 hc_67) ml_X10_95 ⟨Nat.le_of_ble_eq_true rfl, Nat.le_of_ble_eq_true rfl⟩ hP hD hS 0 rfl rfl rfl [0] rfl rfl rfl rfl rfl hl.1 rfl (Nat.le_of_ble_eq_true rfl) ⟨Nat.zero_le _, Nat.zero_le _⟩ dX10_thing_67 ?_
        clear hP hD hS; intro H locs hP hD hS
        cases hf
        rw [hQ]
        exact r_iret C hr hP hD hS rfl dX10_thing_70
      · replace hf := it_f c_15_1 hf
        by_cases c_15_2 : p1 = 2
        · replace hf := it_t c_15_2 hf
          refine lv_tableIn (off := 56) (tgt := 71) hx hb dX10_thing_15 (by rw [c_15_2]; decide) (by rw [c_15_2]; decide) (by rw [c_15_2]; rfl) (by decide) ?_
          refine lv_aload_n hx hb dX10_thing_71 rfl (lv_at hl 0 rfl) ?_
          refine lv_aload_n hx hb dX10_thing_72 rfl (lv_at hl 0 rfl) ?_
          refine r_get C hP 0 rfl fl_X10_32 rfl dX10_thing_73 ?_
          refine lv_iload_n hx hb dX10_thing_76 rfl (lv_at hl 1 rfl) ?_
          obtain ⟨r_77, hc_77, hf⟩ := bd1 hf
          refine r_callVi (ws' := (wX10_thing E h h_reader h_inn h_chosen h_night h_marks h_notes h_casts h_inn_house h_inn_thingIn h_inn_full h_inn_states h_inn_bed h_inn_dreamOf h_inn_listensIn h_night_ways h_night_how h_night_passed h_night_dreamOf h_night_stateOf h_night_roomOf h_night_handOf h_night_awake h_night_thingIn h_night_full h_night_heardBy v_marked v_refusal v_latestFault v_faultPlace v_inn_minutes v_inn_things v_inn_dreams v_inn_sleepers v_inn_listeners v_night_setting v_night_been v_night_handOf v_night_full v_night_thingIn)) (As := [.int p0]) (rest := [.ref h]) C (ctX4_holderOf l E h_night h_inn h_night_ways h_night_how h_night_passed h_night_dreamOf h_night_stateOf h_night_roomOf h_night_handOf h_night_awake h_night_thingIn h_night_full h_night_heardBy h_inn_house h_inn_thingIn h_inn_full h_inn_states h_inn_bed h_inn_dreamOf h_inn_listensIn v_night_setting v_night_been v_inn_minutes v_inn_things v_inn_dreams v_inn_sleepers v_inn_listeners v_night_handOf N p0 r_77 hc_77) ml_X10_210 ⟨Nat.le_of_ble_eq_true rfl, Nat.le_of_ble_eq_true rfl⟩ hP hD hS 2 rfl rfl rfl [2, 1, 3] rfl rfl rfl rfl rfl hl.1 rfl (Nat.le_of_ble_eq_true rfl) ⟨Nat.zero_le _, Nat.zero_le _⟩ dX10_thing_77 ?_
          clear hP hD hS; intro H locs hP hD hS
          obtain ⟨r_80, v_refusal_80, hc_80, hf⟩ := bd2 hf
          refine r_callVi (ws' := (wX10_thing E h h_reader h_inn h_chosen h_night h_marks h_notes h_casts h_inn_house h_inn_thingIn h_inn_full h_inn_states h_inn_bed h_inn_dreamOf h_inn_listensIn h_night_ways h_night_how h_night_passed h_night_dreamOf h_night_stateOf h_night_roomOf h_night_handOf h_night_awake h_night_thingIn h_night_full h_night_heardBy v_marked v_refusal_80 v_latestFault v_faultPlace v_inn_minutes v_inn_things v_inn_dreams v_inn_sleepers v_inn_listeners v_night_setting v_night_been v_night_handOf v_night_full v_night_thingIn)) (As := [.int r_77]) (rest := []) C (ctX10_answer l E h h_reader h_inn h_chosen h_night h_marks h_notes h_casts v_marked v_refusal v_latestFault v_faultPlace N r_77 r_80 v_refusal_80 hc_80) ml_X10_95 ⟨Nat.le_of_ble_eq_true rfl, Nat.le_of_ble_eq_true rfl⟩ hP hD hS 0 rfl rfl rfl [0] rfl rfl rfl rfl rfl hl.1 rfl (Nat.le_of_ble_eq_true rfl) ⟨Nat.zero_le _, Nat.zero_le _⟩ dX10_thing_80 ?_
          clear hP hD hS; intro H locs hP hD hS
          cases hf
          rw [hQ]
          exact r_iret C hr hP hD hS rfl dX10_thing_83
        · replace hf := it_f c_15_2 hf
          refine lv_tableOut (tgt := 84) hx hb dX10_thing_15 (by have g0 := lv_neT (a := 0) c_15_0 (by decide); have g1 := lv_neT (a := 1) c_15_1 (by decide); have g2 := lv_neT (a := 2) c_15_2 (by decide); omega) (by decide) ?_
          refine lv_aload_n hx hb dX10_thing_84 rfl (lv_at hl 0 rfl) ?_
          refine lv_iconst (v := 1) hx hb dX10_thing_85 (by decide) ?_
          obtain ⟨r_86, v_refusal_86, hc_86, hf⟩ := bd2 hf
          refine r_callVi (ws' := (wX10_thing E h h_reader h_inn h_chosen h_night h_marks h_notes h_casts h_inn_house h_inn_thingIn h_inn_full h_inn_states h_inn_bed h_inn_dreamOf h_inn_listensIn h_night_ways h_night_how h_night_passed h_night_dreamOf h_night_stateOf h_night_roomOf h_night_handOf h_night_awake h_night_thingIn h_night_full h_night_heardBy v_marked v_refusal_86 v_latestFault v_faultPlace v_inn_minutes v_inn_things v_inn_dreams v_inn_sleepers v_inn_listeners v_night_setting v_night_been v_night_handOf v_night_full v_night_thingIn)) (As := [.int 1]) (rest := []) C (ctX10_refuse l E h h_reader h_inn h_chosen h_night h_marks h_notes h_casts v_marked v_refusal v_latestFault v_faultPlace N 1 r_86 v_refusal_86 hc_86) ml_X10_68 ⟨Nat.le_of_ble_eq_true rfl, Nat.le_of_ble_eq_true rfl⟩ hP hD hS 0 rfl rfl rfl [0] rfl rfl rfl rfl rfl hl.1 rfl (Nat.le_of_ble_eq_true rfl) ⟨Nat.zero_le _, Nat.zero_le _⟩ dX10_thing_86 ?_
          clear hP hD hS; intro H locs hP hD hS
          cases hf
          rw [hQ]
          exact r_iret C hr hP hD hS rfl dX10_thing_89
  · replace hf := it_t c_5 hf
    refine lv_aload_n hx hb dX10_thing_8 rfl (lv_at hl 0 rfl) ?_
    refine lv_iconst (v := 1) hx hb dX10_thing_9 (by decide) ?_
    obtain ⟨r_10, v_refusal_10, hc_10, hf⟩ := bd2 hf
    refine r_callVi (ws' := (wX10_thing E h h_reader h_inn h_chosen h_night h_marks h_notes h_casts h_inn_house h_inn_thingIn h_inn_full h_inn_states h_inn_bed h_inn_dreamOf h_inn_listensIn h_night_ways h_night_how h_night_passed h_night_dreamOf h_night_stateOf h_night_roomOf h_night_handOf h_night_awake h_night_thingIn h_night_full h_night_heardBy v_marked v_refusal_10 v_latestFault v_faultPlace v_inn_minutes v_inn_things v_inn_dreams v_inn_sleepers v_inn_listeners v_night_setting v_night_been v_night_handOf v_night_full v_night_thingIn)) (As := [.int 1]) (rest := []) C (ctX10_refuse l E h h_reader h_inn h_chosen h_night h_marks h_notes h_casts v_marked v_refusal v_latestFault v_faultPlace N 1 r_10 v_refusal_10 hc_10) ml_X10_68 ⟨Nat.le_of_ble_eq_true rfl, Nat.le_of_ble_eq_true rfl⟩ hP hD hS 0 rfl rfl rfl [0] rfl rfl rfl rfl rfl hl.1 rfl (Nat.le_of_ble_eq_true rfl) ⟨Nat.zero_le _, Nat.zero_le _⟩ dX10_thing_10 ?_
    clear hP hD hS; intro H locs hP hD hS
    cases hf
    rw [hQ]
    exact r_iret C hr hP hD hS rfl dX10_thing_13
def wX10_isDoor (E : EN) (h h_reader h_inn h_chosen h_night h_marks h_notes h_casts h_inn_house h_inn_thingIn h_inn_full h_inn_states h_inn_bed h_inn_dreamOf h_inn_listensIn h_inn_house_creak h_inn_house_cold h_inn_house_one h_inn_house_other h_inn_house_how h_inn_house_falls h_inn_house_ways : Nat) (v_marked : Int32) (v_refusal : Int32) (v_latestFault : Int32) (v_faultPlace : Int32) (v_inn_minutes : Int32) (v_inn_things : Int32) (v_inn_dreams : Int32) (v_inn_sleepers : Int32) (v_inn_listeners : Int32) (v_inn_house_rooms : Int32) (v_inn_house_doors : Int32) : va_W := [(h, .inr (9, [.ref h_reader, .ref h_inn, .ref h_chosen, .ref h_night, .ref h_marks, .int v_marked, .ref h_notes, .ref h_casts, .int v_refusal, .int v_latestFault, .int v_faultPlace])), (h_inn, .inr (2, [.ref h_inn_house, .int v_inn_minutes, .int v_inn_things, .ref h_inn_thingIn, .ref h_inn_full, .int v_inn_dreams, .ref h_inn_states, .int v_inn_sleepers, .ref h_inn_bed, .ref h_inn_dreamOf, .int v_inn_listeners, .ref h_inn_listensIn])), (h_inn_house, .inr (1, [.int v_inn_house_rooms, .ref h_inn_house_creak, .ref h_inn_house_cold, .int v_inn_house_doors, .ref h_inn_house_one, .ref h_inn_house_other, .ref h_inn_house_how, .ref h_inn_house_falls, .ref h_inn_house_ways]))]
def fX10_isDoor (N : Nat) (p0 : Int32) (v_inn_house_doors : Int32) : Option Int32 := (fX10_isBelow N p0 v_inn_house_doors).bind (un1 fun (r_11 : Int32) => zg r_11 (some r_11))
set_option maxHeartbeats 4000000 in
set_option maxRecDepth 100000 in
theorem ctX10_isDoor (l : Launch) (E : EN) (h h_reader h_inn h_chosen h_night h_marks h_notes h_casts h_inn_house h_inn_thingIn h_inn_full h_inn_states h_inn_bed h_inn_dreamOf h_inn_listensIn h_inn_house_creak h_inn_house_cold h_inn_house_one h_inn_house_other h_inn_house_how h_inn_house_falls h_inn_house_ways : Nat) (v_marked : Int32) (v_refusal : Int32) (v_latestFault : Int32) (v_faultPlace : Int32) (v_inn_minutes : Int32) (v_inn_things : Int32) (v_inn_dreams : Int32) (v_inn_sleepers : Int32) (v_inn_listeners : Int32) (v_inn_house_rooms : Int32) (v_inn_house_doors : Int32) (N : Nat) (p0 : Int32) (z0 : Int32) (hf : fX10_isDoor N p0 v_inn_house_doors = some z0) : CTi l E yX10_isDoor cX10_isDoor 2 .boolean 1 21 [.ref h, .int p0] (wX10_isDoor E h h_reader h_inn h_chosen h_night h_marks h_notes h_casts h_inn_house h_inn_thingIn h_inn_full h_inn_states h_inn_bed h_inn_dreamOf h_inn_listensIn h_inn_house_creak h_inn_house_cold h_inn_house_one h_inn_house_other h_inn_house_how h_inn_house_falls h_inn_house_ways v_marked v_refusal v_latestFault v_faultPlace v_inn_minutes v_inn_things v_inn_dreams v_inn_sleepers v_inn_listeners v_inn_house_rooms v_inn_house_doors) z0 (wX10_isDoor E h h_reader h_inn h_chosen h_night h_marks h_notes h_casts h_inn_house h_inn_thingIn h_inn_full h_inn_states h_inn_bed h_inn_dreamOf h_inn_listensIn h_inn_house_creak h_inn_house_cold h_inn_house_one h_inn_house_other h_inn_house_how h_inn_house_falls h_inn_house_ways v_marked v_refusal v_latestFault v_faultPlace v_inn_minutes v_inn_things v_inn_dreams v_inn_sleepers v_inn_listeners v_inn_house_rooms v_inn_house_doors) := by
  intro sz
  refine ct_body (by decide) (Nat.le_of_ble_eq_true rfl) ?_
  intro p e s m args below meth c A ls hAe C hr hin hP hD hS hl
  have C : CX p s m args meth c cX10_isDoor RX10 2 E A := C
  have hl : lv_has ls 2 [(0, .ref h), (1, .int p0)] := hl
  have hx := C.1
  have hb := C.2.1
  rw [hAe]
  clear hAe
  obtain ⟨Q, hQ⟩ : ∃ Q, Q = MQ below (Qi E A z0 (wX10_isDoor E h h_reader h_inn h_chosen h_night h_marks h_notes h_casts h_inn_house h_inn_thingIn h_inn_full h_inn_states h_inn_bed h_inn_dreamOf h_inn_listensIn h_inn_house_creak h_inn_house_cold h_inn_house_one h_inn_house_other h_inn_house_how h_inn_house_falls h_inn_house_ways v_marked v_refusal v_latestFault v_faultPlace v_inn_minutes v_inn_things v_inn_dreams v_inn_sleepers v_inn_listeners v_inn_house_rooms v_inn_house_doors)) args s 0 0 A := ⟨_, rfl⟩
  rw [← hQ]
  unfold fX10_isDoor at hf
  refine lv_iload_n hx hb dX10_isDoor_0 rfl (lv_at hl 1 rfl) ?_
  refine lv_aload_n hx hb dX10_isDoor_1 rfl (lv_at hl 0 rfl) ?_
  refine r_get C hP 0 rfl fl_X10_19 rfl dX10_isDoor_2 ?_
  refine r_get C hP 1 rfl fl_X10_105 rfl dX10_isDoor_5 ?_
  refine r_get C hP 2 rfl fl_X10_310 rfl dX10_isDoor_8 ?_
  obtain ⟨r_11, hc_11, hf⟩ := bd1 hf
  refine r_callSi (ws' := (wX10_isDoor E h h_reader h_inn h_chosen h_night h_marks h_notes h_casts h_inn_house h_inn_thingIn h_inn_full h_inn_states h_inn_bed h_inn_dreamOf h_inn_listensIn h_inn_house_creak h_inn_house_cold h_inn_house_one h_inn_house_other h_inn_house_how h_inn_house_falls h_inn_house_ways v_marked v_refusal v_latestFault v_faultPlace v_inn_minutes v_inn_things v_inn_dreams v_inn_sleepers v_inn_listeners v_inn_house_rooms v_inn_house_doors)) (As := [.int p0, .int v_inn_house_doors]) (rest := []) C (ctX10_isBelow l E N p0 v_inn_house_doors r_11 hc_11) ml_X10_121 ⟨Nat.le_of_ble_eq_true rfl, Nat.le_of_ble_eq_true rfl⟩ hP hD hS [] rfl rfl rfl rfl rfl hl.1 rfl (Nat.le_of_ble_eq_true rfl) ⟨Nat.zero_le _, Nat.zero_le _⟩ dX10_isDoor_11 ?_
  clear hP hD hS; intro H locs hP hD hS
  obtain ⟨hz_14, hf⟩ := zg_s hf
  cases hf
  rw [hQ]
  exact r_zret C hr hP hD hS hz_14 rfl dX10_isDoor_14
def wX10_doorway (E : EN) (h h_reader h_inn h_chosen h_night h_marks h_notes h_casts h_inn_house h_inn_thingIn h_inn_full h_inn_states h_inn_bed h_inn_dreamOf h_inn_listensIn h_inn_house_creak h_inn_house_cold h_inn_house_one h_inn_house_other h_inn_house_how h_inn_house_falls h_inn_house_ways h_night_ways h_night_how h_night_passed h_night_dreamOf h_night_stateOf h_night_roomOf h_night_handOf h_night_awake h_night_thingIn h_night_full h_night_heardBy : Nat) (v_marked : Int32) (v_refusal : Int32) (v_latestFault : Int32) (v_faultPlace : Int32) (v_inn_minutes : Int32) (v_inn_things : Int32) (v_inn_dreams : Int32) (v_inn_sleepers : Int32) (v_inn_listeners : Int32) (v_inn_house_rooms : Int32) (v_inn_house_doors : Int32) (v_night_setting : Int32) (v_night_been : Int32) (v_night_passed : Nat → Int32) (v_night_how : Nat → Int32) : va_W := [(h, .inr (9, [.ref h_reader, .ref h_inn, .ref h_chosen, .ref h_night, .ref h_marks, .int v_marked, .ref h_notes, .ref h_casts, .int v_refusal, .int v_latestFault, .int v_faultPlace])), (h_inn, .inr (2, [.ref h_inn_house, .int v_inn_minutes, .int v_inn_things, .ref h_inn_thingIn, .ref h_inn_full, .int v_inn_dreams, .ref h_inn_states, .int v_inn_sleepers, .ref h_inn_bed, .ref h_inn_dreamOf, .int v_inn_listeners, .ref h_inn_listensIn])), (h_inn_house, .inr (1, [.int v_inn_house_rooms, .ref h_inn_house_creak, .ref h_inn_house_cold, .int v_inn_house_doors, .ref h_inn_house_one, .ref h_inn_house_other, .ref h_inn_house_how, .ref h_inn_house_falls, .ref h_inn_house_ways])), (h_night, .inr (4, [.ref h_inn, .int v_night_setting, .int v_night_been, .ref h_night_ways, .ref h_night_how, .ref h_night_passed, .ref h_night_dreamOf, .ref h_night_stateOf, .ref h_night_roomOf, .ref h_night_handOf, .ref h_night_awake, .ref h_night_thingIn, .ref h_night_full, .ref h_night_heardBy])), (h_night_passed, aI E 10 v_night_passed), (h_night_how, aI E 10 v_night_how)]
def fX10_doorway (N : Nat) (p0 : Int32) (p1 : Int32) (v_inn_house_doors : Int32) (v_night_passed : Nat → Int32) (v_night_how : Nat → Int32) : Option (Int32 × Int32) := (fX10_isDoor N p0 v_inn_house_doors).bind (un1 fun (r_2 : Int32) => if r_2 = 0 then ((fX10_refuse N 1).bind (un2 fun (r_18 : Int32) (v_refusal_18 : Int32) => some (r_18, v_refusal_18))) else ((fX10_isBelow N p1 2).bind (un1 fun (r_10 : Int32) => if r_10 = 0 then ((fX10_refuse N 1).bind (un2 fun (r_18 : Int32) (v_refusal_18 : Int32) => some (r_18, v_refusal_18))) else (if p1 = 0 then (gd p0 10 ((fX10_answer N (v_night_how p0.toNatClampNeg)).bind (un2 fun (r_48 : Int32) (v_refusal_48 : Int32) => some (r_48, v_refusal_48)))) else (gd p0 10 ((fX10_answer N (v_night_passed p0.toNatClampNeg)).bind (un2 fun (r_48 : Int32) (v_refusal_48 : Int32) => some (r_48, v_refusal_48))))))))
set_option maxHeartbeats 4000000 in
set_option maxRecDepth 100000 in
theorem ctX10_doorway (l : Launch) (E : EN) (h h_reader h_inn h_chosen h_night h_marks h_notes h_casts h_inn_house h_inn_thingIn h_inn_full h_inn_states h_inn_bed h_inn_dreamOf h_inn_listensIn h_inn_house_creak h_inn_house_cold h_inn_house_one h_inn_house_other h_inn_house_how h_inn_house_falls h_inn_house_ways h_night_ways h_night_how h_night_passed h_night_dreamOf h_night_stateOf h_night_roomOf h_night_handOf h_night_awake h_night_thingIn h_night_full h_night_heardBy : Nat) (v_marked : Int32) (v_refusal : Int32) (v_latestFault : Int32) (v_faultPlace : Int32) (v_inn_minutes : Int32) (v_inn_things : Int32) (v_inn_dreams : Int32) (v_inn_sleepers : Int32) (v_inn_listeners : Int32) (v_inn_house_rooms : Int32) (v_inn_house_doors : Int32) (v_night_setting : Int32) (v_night_been : Int32) (v_night_passed : Nat → Int32) (v_night_how : Nat → Int32) (N : Nat) (p0 : Int32) (p1 : Int32) (z0 : Int32) (z1 : Int32) (hf : fX10_doorway N p0 p1 v_inn_house_doors v_night_passed v_night_how = some (z0, z1)) : CTi l E yX10_doorway cX10_doorway 3 .int 2 42 [.ref h, .int p0, .int p1] (wX10_doorway E h h_reader h_inn h_chosen h_night h_marks h_notes h_casts h_inn_house h_inn_thingIn h_inn_full h_inn_states h_inn_bed h_inn_dreamOf h_inn_listensIn h_inn_house_creak h_inn_house_cold h_inn_house_one h_inn_house_other h_inn_house_how h_inn_house_falls h_inn_house_ways h_night_ways h_night_how h_night_passed h_night_dreamOf h_night_stateOf h_night_roomOf h_night_handOf h_night_awake h_night_thingIn h_night_full h_night_heardBy v_marked v_refusal v_latestFault v_faultPlace v_inn_minutes v_inn_things v_inn_dreams v_inn_sleepers v_inn_listeners v_inn_house_rooms v_inn_house_doors v_night_setting v_night_been v_night_passed v_night_how) z0 (wX10_doorway E h h_reader h_inn h_chosen h_night h_marks h_notes h_casts h_inn_house h_inn_thingIn h_inn_full h_inn_states h_inn_bed h_inn_dreamOf h_inn_listensIn h_inn_house_creak h_inn_house_cold h_inn_house_one h_inn_house_other h_inn_house_how h_inn_house_falls h_inn_house_ways h_night_ways h_night_how h_night_passed h_night_dreamOf h_night_stateOf h_night_roomOf h_night_handOf h_night_awake h_night_thingIn h_night_full h_night_heardBy v_marked z1 v_latestFault v_faultPlace v_inn_minutes v_inn_things v_inn_dreams v_inn_sleepers v_inn_listeners v_inn_house_rooms v_inn_house_doors v_night_setting v_night_been v_night_passed v_night_how) := by
  intro sz
  refine ct_body (by decide) (Nat.le_of_ble_eq_true rfl) ?_
  intro p e s m args below meth c A ls hAe C hr hin hP hD hS hl
  have C : CX p s m args meth c cX10_doorway RX10 3 E A := C
  have hl : lv_has ls 3 [(0, .ref h), (1, .int p0), (2, .int p1)] := hl
  have hx := C.1
  have hb := C.2.1
  rw [hAe]
  clear hAe
  obtain ⟨Q, hQ⟩ : ∃ Q, Q = MQ below (Qi E A z0 (wX10_doorway E h h_reader h_inn h_chosen h_night h_marks h_notes h_casts h_inn_house h_inn_thingIn h_inn_full h_inn_states h_inn_bed h_inn_dreamOf h_inn_listensIn h_inn_house_creak h_inn_house_cold h_inn_house_one h_inn_house_other h_inn_house_how h_inn_house_falls h_inn_house_ways h_night_ways h_night_how h_night_passed h_night_dreamOf h_night_stateOf h_night_roomOf h_night_handOf h_night_awake h_night_thingIn h_night_full h_night_heardBy v_marked z1 v_latestFault v_faultPlace v_inn_minutes v_inn_things v_inn_dreams v_inn_sleepers v_inn_listeners v_inn_house_rooms v_inn_house_doors v_night_setting v_night_been v_night_passed v_night_how)) args s 0 0 A := ⟨_, rfl⟩
  rw [← hQ]
  unfold fX10_doorway at hf
  refine lv_aload_n hx hb dX10_doorway_0 rfl (lv_at hl 0 rfl) ?_
  refine lv_iload_n hx hb dX10_doorway_1 rfl (lv_at hl 1 rfl) ?_
  obtain ⟨r_2, hc_2, hf⟩ := bd1 hf
  refine r_callVi (ws' := (wX10_doorway E h h_reader h_inn h_chosen h_night h_marks h_notes h_casts h_inn_house h_inn_thingIn h_inn_full h_inn_states h_inn_bed h_inn_dreamOf h_inn_listensIn h_inn_house_creak h_inn_house_cold h_inn_house_one h_inn_house_other h_inn_house_how h_inn_house_falls h_inn_house_ways h_night_ways h_night_how h_night_passed h_night_dreamOf h_night_stateOf h_night_roomOf h_night_handOf h_night_awake h_night_thingIn h_night_full h_night_heardBy v_marked v_refusal v_latestFault v_faultPlace v_inn_minutes v_inn_things v_inn_dreams v_inn_sleepers v_inn_listeners v_inn_house_rooms v_inn_house_doors v_night_setting v_night_been v_night_passed v_night_how)) (As := [.int p0]) (rest := []) C (ctX10_isDoor l E h h_reader h_inn h_chosen h_night h_marks h_notes h_casts h_inn_house h_inn_thingIn h_inn_full h_inn_states h_inn_bed h_inn_dreamOf h_inn_listensIn h_inn_house_creak h_inn_house_cold h_inn_house_one h_inn_house_other h_inn_house_how h_inn_house_falls h_inn_house_ways v_marked v_refusal v_latestFault v_faultPlace v_inn_minutes v_inn_things v_inn_dreams v_inn_sleepers v_inn_listeners v_inn_house_rooms v_inn_house_doors N p0 r_2 hc_2) ml_X10_213 ⟨Nat.le_of_ble_eq_true rfl, Nat.le_of_ble_eq_true rfl⟩ hP hD hS 0 rfl rfl rfl [0, 1, 2] rfl rfl rfl rfl rfl hl.1 rfl (Nat.le_of_ble_eq_true rfl) ⟨Nat.zero_le _, Nat.zero_le _⟩ dX10_doorway_2 ?_
  clear hP hD hS; intro H locs hP hD hS
  refine lv_if_eq (tgt := 16) hx hb dX10_doorway_5 (by decide) (fun c_5 => ?_) (fun c_5 => ?_)
  · replace hf := it_t c_5 hf
    refine lv_aload_n hx hb dX10_doorway_16 rfl (lv_at hl 0 rfl) ?_
    refine lv_iconst (v := 1) hx hb dX10_doorway_17 (by decide) ?_
    obtain ⟨r_18, v_refusal_18, hc_18, hf⟩ := bd2 hf
    refine r_callVi (ws' := (wX10_doorway E h h_reader h_inn h_chosen h_night h_marks h_notes h_casts h_inn_house h_inn_thingIn h_inn_full h_inn_states h_inn_bed h_inn_dreamOf h_inn_listensIn h_inn_house_creak h_inn_house_cold h_inn_house_one h_inn_house_other h_inn_house_how h_inn_house_falls h_inn_house_ways h_night_ways h_night_how h_night_passed h_night_dreamOf h_night_stateOf h_night_roomOf h_night_handOf h_night_awake h_night_thingIn h_night_full h_night_heardBy v_marked v_refusal_18 v_latestFault v_faultPlace v_inn_minutes v_inn_things v_inn_dreams v_inn_sleepers v_inn_listeners v_inn_house_rooms v_inn_house_doors v_night_setting v_night_been v_night_passed v_night_how)) (As := [.int 1]) (rest := []) C (ctX10_refuse l E h h_reader h_inn h_chosen h_night h_marks h_notes h_casts v_marked v_refusal v_latestFault v_faultPlace N 1 r_18 v_refusal_18 hc_18) ml_X10_68 ⟨Nat.le_of_ble_eq_true rfl, Nat.le_of_ble_eq_true rfl⟩ hP hD hS 0 rfl rfl rfl [0] rfl rfl rfl rfl rfl hl.1 rfl (Nat.le_of_ble_eq_true rfl) ⟨Nat.zero_le _, Nat.zero_le _⟩ dX10_doorway_18 ?_
    clear hP hD hS; intro H locs hP hD hS
    cases hf
    rw [hQ]
    exact r_iret C hr hP hD hS rfl dX10_doorway_21
  · replace hf := it_f c_5 hf
    refine lv_iload_n hx hb dX10_doorway_8 rfl (lv_at hl 2 rfl) ?_
    refine lv_iconst (v := 2) hx hb dX10_doorway_9 (by decide) ?_
    obtain ⟨r_10, hc_10, hf⟩ := bd1 hf
    refine r_callSi (ws' := (wX10_doorway E h h_reader h_inn h_chosen h_night h_marks h_notes h_casts h_inn_house h_inn_thingIn h_inn_full h_inn_states h_inn_bed h_inn_dreamOf h_inn_listensIn h_inn_house_creak h_inn_house_cold h_inn_house_one h_inn_house_other h_inn_house_how h_inn_house_falls h_inn_house_ways h_night_ways h_night_how h_night_passed h_night_dreamOf h_night_stateOf h_night_roomOf h_night_handOf h_night_awake h_night_thingIn h_night_full h_night_heardBy v_marked v_refusal v_latestFault v_faultPlace v_inn_minutes v_inn_things v_inn_dreams v_inn_sleepers v_inn_listeners v_inn_house_rooms v_inn_house_doors v_night_setting v_night_been v_night_passed v_night_how)) (As := [.int p1, .int 2]) (rest := []) C (ctX10_isBelow l E N p1 2 r_10 hc_10) ml_X10_121 ⟨Nat.le_of_ble_eq_true rfl, Nat.le_of_ble_eq_true rfl⟩ hP hD hS [] rfl rfl rfl rfl rfl hl.1 rfl (Nat.le_of_ble_eq_true rfl) ⟨Nat.zero_le _, Nat.zero_le _⟩ dX10_doorway_10 ?_
    clear hP hD hS; intro H locs hP hD hS
    refine lv_if_ne (tgt := 22) hx hb dX10_doorway_13 (by decide) (fun c_13 => ?_) (fun c_13 => ?_)
    · replace hf := it_f c_13 hf
      refine lv_aload_n hx hb dX10_doorway_22 rfl (lv_at hl 0 rfl) ?_
      refine lv_iload_n hx hb dX10_doorway_23 rfl (lv_at hl 2 rfl) ?_
      refine lv_if_ne (tgt := 39) hx hb dX10_doorway_24 (by decide) (fun c_24 => ?_) (fun c_24 => ?_)
      · replace hf := it_f c_24 hf
        refine lv_aload_n hx hb dX10_doorway_39 rfl (lv_at hl 0 rfl) ?_
        refine r_get C hP 0 rfl fl_X10_32 rfl dX10_doorway_40 ?_
        refine r_get C hP 3 rfl fl_X10_219 rfl dX10_doorway_43 ?_
        refine lv_iload_n hx hb dX10_doorway_46 rfl (lv_at hl 1 rfl) ?_
        obtain ⟨hi_47, hf⟩ := gd_s hf
        refine r_iald C hP 4 rfl hi_47 dX10_doorway_47 ?_
        obtain ⟨r_48, v_refusal_48, hc_48, hf⟩ := bd2 hf
        refine r_callVi (ws' := (wX10_doorway E h h_reader h_inn h_chosen h_night h_marks h_notes h_casts h_inn_house h_inn_thingIn h_inn_full h_inn_states h_inn_bed h_inn_dreamOf h_inn_listensIn h_inn_house_creak h_inn_house_cold h_inn_house_one h_inn_house_other h_inn_house_how h_inn_house_falls h_inn_house_ways h_night_ways h_night_how h_night_passed h_night_dreamOf h_night_stateOf h_night_roomOf h_night_handOf h_night_awake h_night_thingIn h_night_full h_night_heardBy v_marked v_refusal_48 v_latestFault v_faultPlace v_inn_minutes v_inn_things v_inn_dreams v_inn_sleepers v_inn_listeners v_inn_house_rooms v_inn_house_doors v_night_setting v_night_been v_night_passed v_night_how)) (As := [.int (v_night_passed p0.toNatClampNeg)]) (rest := []) C (ctX10_answer l E h h_reader h_inn h_chosen h_night h_marks h_notes h_casts v_marked v_refusal v_latestFault v_faultPlace N (v_night_passed p0.toNatClampNeg) r_48 v_refusal_48 hc_48) ml_X10_95 ⟨Nat.le_of_ble_eq_true rfl, Nat.le_of_ble_eq_true rfl⟩ hP hD hS 0 rfl rfl rfl [0] rfl rfl rfl rfl rfl hl.1 rfl (Nat.le_of_ble_eq_true rfl) ⟨Nat.zero_le _, Nat.zero_le _⟩ dX10_doorway_48 ?_
        clear hP hD hS; intro H locs hP hD hS
        cases hf
        rw [hQ]
        exact r_iret C hr hP hD hS rfl dX10_doorway_51
      · replace hf := it_t c_24 hf
        refine lv_aload_n hx hb dX10_doorway_27 rfl (lv_at hl 0 rfl) ?_
        refine r_get C hP 0 rfl fl_X10_32 rfl dX10_doorway_28 ?_
        refine r_get C hP 3 rfl fl_X10_216 rfl dX10_doorway_31 ?_
        refine lv_iload_n hx hb dX10_doorway_34 rfl (lv_at hl 1 rfl) ?_
        obtain ⟨hi_35, hf⟩ := gd_s hf
        refine r_iald C hP 5 rfl hi_35 dX10_doorway_35 ?_
        refine lv_goto (tgt := 48) hx hb dX10_doorway_36 (by decide) ?_
        obtain ⟨r_48, v_refusal_48, hc_48, hf⟩ := bd2 hf
        refine r_callVi (ws' := (wX10_doorway E h h_reader h_inn h_chosen h_night h_marks h_notes h_casts h_inn_house h_inn_thingIn h_inn_full h_inn_states h_inn_bed h_inn_dreamOf h_inn_listensIn h_inn_house_creak h_inn_house_cold h_inn_house_one h_inn_house_other h_inn_house_how h_inn_house_falls h_inn_house_ways h_night_ways h_night_how h_night_passed h_night_dreamOf h_night_stateOf h_night_roomOf h_night_handOf h_night_awake h_night_thingIn h_night_full h_night_heardBy v_marked v_refusal_48 v_latestFault v_faultPlace v_inn_minutes v_inn_things v_inn_dreams v_inn_sleepers v_inn_listeners v_inn_house_rooms v_inn_house_doors v_night_setting v_night_been v_night_passed v_night_how)) (As := [.int (v_night_how p0.toNatClampNeg)]) (rest := []) C (ctX10_answer l E h h_reader h_inn h_chosen h_night h_marks h_notes h_casts v_marked v_refusal v_latestFault v_faultPlace N (v_night_how p0.toNatClampNeg) r_48 v_refusal_48 hc_48) ml_X10_95 ⟨Nat.le_of_ble_eq_true rfl, Nat.le_of_ble_eq_true rfl⟩ hP hD hS 0 rfl rfl rfl [0] rfl rfl rfl rfl rfl hl.1 rfl (Nat.le_of_ble_eq_true rfl) ⟨Nat.zero_le _, Nat.zero_le _⟩ dX10_doorway_48 ?_
        clear hP hD hS; intro H locs hP hD hS
        cases hf
        rw [hQ]
        exact r_iret C hr hP hD hS rfl dX10_doorway_51
    · replace hf := it_t c_13 hf
      refine lv_aload_n hx hb dX10_doorway_16 rfl (lv_at hl 0 rfl) ?_
      refine lv_iconst (v := 1) hx hb dX10_doorway_17 (by decide) ?_
      obtain ⟨r_18, v_refusal_18, hc_18, hf⟩ := bd2 hf
      refine r_callVi (ws' := (wX10_doorway E h h_reader h_inn h_chosen h_night h_marks h_notes h_casts h_inn_house h_inn_thingIn h_inn_full h_inn_states h_inn_bed h_inn_dreamOf h_inn_listensIn h_inn_house_creak h_inn_house_cold h_inn_house_one h_inn_house_other h_inn_house_how h_inn_house_falls h_inn_house_ways h_night_ways h_night_how h_night_passed h_night_dreamOf h_night_stateOf h_night_roomOf h_night_handOf h_night_awake h_night_thingIn h_night_full h_night_heardBy v_marked v_refusal_18 v_latestFault v_faultPlace v_inn_minutes v_inn_things v_inn_dreams v_inn_sleepers v_inn_listeners v_inn_house_rooms v_inn_house_doors v_night_setting v_night_been v_night_passed v_night_how)) (As := [.int 1]) (rest := []) C (ctX10_refuse l E h h_reader h_inn h_chosen h_night h_marks h_notes h_casts v_marked v_refusal v_latestFault v_faultPlace N 1 r_18 v_refusal_18 hc_18) ml_X10_68 ⟨Nat.le_of_ble_eq_true rfl, Nat.le_of_ble_eq_true rfl⟩ hP hD hS 0 rfl rfl rfl [0] rfl rfl rfl rfl rfl hl.1 rfl (Nat.le_of_ble_eq_true rfl) ⟨Nat.zero_le _, Nat.zero_le _⟩ dX10_doorway_18 ?_
      clear hP hD hS; intro H locs hP hD hS
      cases hf
      rw [hQ]
      exact r_iret C hr hP hD hS rfl dX10_doorway_21
def wX10_isListener (E : EN) (h h_reader h_inn h_chosen h_night h_marks h_notes h_casts h_inn_house h_inn_thingIn h_inn_full h_inn_states h_inn_bed h_inn_dreamOf h_inn_listensIn : Nat) (v_marked : Int32) (v_refusal : Int32) (v_latestFault : Int32) (v_faultPlace : Int32) (v_inn_minutes : Int32) (v_inn_things : Int32) (v_inn_dreams : Int32) (v_inn_sleepers : Int32) (v_inn_listeners : Int32) : va_W := [(h, .inr (9, [.ref h_reader, .ref h_inn, .ref h_chosen, .ref h_night, .ref h_marks, .int v_marked, .ref h_notes, .ref h_casts, .int v_refusal, .int v_latestFault, .int v_faultPlace])), (h_inn, .inr (2, [.ref h_inn_house, .int v_inn_minutes, .int v_inn_things, .ref h_inn_thingIn, .ref h_inn_full, .int v_inn_dreams, .ref h_inn_states, .int v_inn_sleepers, .ref h_inn_bed, .ref h_inn_dreamOf, .int v_inn_listeners, .ref h_inn_listensIn]))]
def fX10_isListener (N : Nat) (p0 : Int32) (v_inn_listeners : Int32) : Option Int32 := (fX10_isBelow N p0 v_inn_listeners).bind (un1 fun (r_8 : Int32) => zg r_8 (some r_8))
set_option maxHeartbeats 4000000 in
set_option maxRecDepth 100000 in
theorem ctX10_isListener (l : Launch) (E : EN) (h h_reader h_inn h_chosen h_night h_marks h_notes h_casts h_inn_house h_inn_thingIn h_inn_full h_inn_states h_inn_bed h_inn_dreamOf h_inn_listensIn : Nat) (v_marked : Int32) (v_refusal : Int32) (v_latestFault : Int32) (v_faultPlace : Int32) (v_inn_minutes : Int32) (v_inn_things : Int32) (v_inn_dreams : Int32) (v_inn_sleepers : Int32) (v_inn_listeners : Int32) (N : Nat) (p0 : Int32) (z0 : Int32) (hf : fX10_isListener N p0 v_inn_listeners = some z0) : CTi l E yX10_isListener cX10_isListener 2 .boolean 1 21 [.ref h, .int p0] (wX10_isListener E h h_reader h_inn h_chosen h_night h_marks h_notes h_casts h_inn_house h_inn_thingIn h_inn_full h_inn_states h_inn_bed h_inn_dreamOf h_inn_listensIn v_marked v_refusal v_latestFault v_faultPlace v_inn_minutes v_inn_things v_inn_dreams v_inn_sleepers v_inn_listeners) z0 (wX10_isListener E h h_reader h_inn h_chosen h_night h_marks h_notes h_casts h_inn_house h_inn_thingIn h_inn_full h_inn_states h_inn_bed h_inn_dreamOf h_inn_listensIn v_marked v_refusal v_latestFault v_faultPlace v_inn_minutes v_inn_things v_inn_dreams v_inn_sleepers v_inn_listeners) := by
  intro sz
  refine ct_body (by decide) (Nat.le_of_ble_eq_true rfl) ?_
  intro p e s m args below meth c A ls hAe C hr hin hP hD hS hl
  have C : CX p s m args meth c cX10_isListener RX10 2 E A := C
  have hl : lv_has ls 2 [(0, .ref h), (1, .int p0)] := hl
  have hx := C.1
  have hb := C.2.1
  rw [hAe]
  clear hAe
  obtain ⟨Q, hQ⟩ : ∃ Q, Q = MQ below (Qi E A z0 (wX10_isListener E h h_reader h_inn h_chosen h_night h_marks h_notes h_casts h_inn_house h_inn_thingIn h_inn_full h_inn_states h_inn_bed h_inn_dreamOf h_inn_listensIn v_marked v_refusal v_latestFault v_faultPlace v_inn_minutes v_inn_things v_inn_dreams v_inn_sleepers v_inn_listeners)) args s 0 0 A := ⟨_, rfl⟩
  rw [← hQ]
  unfold fX10_isListener at hf
  refine lv_iload_n hx hb dX10_isListener_0 rfl (lv_at hl 1 rfl) ?_
  refine lv_aload_n hx hb dX10_isListener_1 rfl (lv_at hl 0 rfl) ?_
  refine r_get C hP 0 rfl fl_X10_19 rfl dX10_isListener_2 ?_
  refine r_get C hP 1 rfl fl_X10_316 rfl dX10_isListener_5 ?_
  obtain ⟨r_8, hc_8, hf⟩ := bd1 hf
  refine r_callSi (ws' := (wX10_isListener E h h_reader h_inn h_chosen h_night h_marks h_notes h_casts h_inn_house h_inn_thingIn h_inn_full h_inn_states h_inn_bed h_inn_dreamOf h_inn_listensIn v_marked v_refusal v_latestFault v_faultPlace v_inn_minutes v_inn_things v_inn_dreams v_inn_sleepers v_inn_listeners)) (As := [.int p0, .int v_inn_listeners]) (rest := []) C (ctX10_isBelow l E N p0 v_inn_listeners r_8 hc_8) ml_X10_121 ⟨Nat.le_of_ble_eq_true rfl, Nat.le_of_ble_eq_true rfl⟩ hP hD hS [] rfl rfl rfl rfl rfl hl.1 rfl (Nat.le_of_ble_eq_true rfl) ⟨Nat.zero_le _, Nat.zero_le _⟩ dX10_isListener_8 ?_
  clear hP hD hS; intro H locs hP hD hS
  obtain ⟨hz_11, hf⟩ := zg_s hf
  cases hf
  rw [hQ]
  exact r_zret C hr hP hD hS hz_11 rfl dX10_isListener_11
def wX10_heard (E : EN) (h h_reader h_inn h_chosen h_night h_marks h_notes h_casts h_inn_house h_inn_thingIn h_inn_full h_inn_states h_inn_bed h_inn_dreamOf h_inn_listensIn h_night_ways h_night_how h_night_passed h_night_dreamOf h_night_stateOf h_night_roomOf h_night_handOf h_night_awake h_night_thingIn h_night_full h_night_heardBy : Nat) (v_marked : Int32) (v_refusal : Int32) (v_latestFault : Int32) (v_faultPlace : Int32) (v_inn_minutes : Int32) (v_inn_things : Int32) (v_inn_dreams : Int32) (v_inn_sleepers : Int32) (v_inn_listeners : Int32) (v_night_setting : Int32) (v_night_been : Int32) (v_night_heardBy : Nat → Int64) : va_W := [(h, .inr (9, [.ref h_reader, .ref h_inn, .ref h_chosen, .ref h_night, .ref h_marks, .int v_marked, .ref h_notes, .ref h_casts, .int v_refusal, .int v_latestFault, .int v_faultPlace])), (h_inn, .inr (2, [.ref h_inn_house, .int v_inn_minutes, .int v_inn_things, .ref h_inn_thingIn, .ref h_inn_full, .int v_inn_dreams, .ref h_inn_states, .int v_inn_sleepers, .ref h_inn_bed, .ref h_inn_dreamOf, .int v_inn_listeners, .ref h_inn_listensIn])), (h_night, .inr (4, [.ref h_inn, .int v_night_setting, .int v_night_been, .ref h_night_ways, .ref h_night_how, .ref h_night_passed, .ref h_night_dreamOf, .ref h_night_stateOf, .ref h_night_roomOf, .ref h_night_handOf, .ref h_night_awake, .ref h_night_thingIn, .ref h_night_full, .ref h_night_heardBy])), (h_night_heardBy, aJ E 3 v_night_heardBy)]
def fX10_heard (N : Nat) (p0 : Int32) (p1 : Int32) (v_inn_listeners : Int32) (v_night_been : Int32) (v_night_heardBy : Nat → Int64) : Option (Int32 × Int32) := (fX10_isListener N p0 v_inn_listeners).bind (un1 fun (r_2 : Int32) => if r_2 = 0 then ((fX10_refuse N 1).bind (un2 fun (r_26 : Int32) (v_refusal_26 : Int32) => some (r_26, v_refusal_26))) else (if p1 < 1 then ((fX10_refuse N 1).bind (un2 fun (r_26 : Int32) (v_refusal_26 : Int32) => some (r_26, v_refusal_26))) else (if p1 ≤ v_night_been then (gd p0 3 ((fX10_isBitSet N (v_night_heardBy p0.toNatClampNeg) p1).bind (un1 fun (r_41 : Int32) => (fX10_bit N r_41).bind (un1 fun (r_44 : Int32) => (fX10_answer N r_44).bind (un2 fun (r_47 : Int32) (v_refusal_47 : Int32) => some (r_47, v_refusal_47)))))) else ((fX10_refuse N 1).bind (un2 fun (r_26 : Int32) (v_refusal_26 : Int32) => some (r_26, v_refusal_26))))))
set_option maxHeartbeats 4000000 in
set_option maxRecDepth 100000 in
theorem ctX10_heard (l : Launch) (E : EN) (h h_reader h_inn h_chosen h_night h_marks h_notes h_casts h_inn_house h_inn_thingIn h_inn_full h_inn_states h_inn_bed h_inn_dreamOf h_inn_listensIn h_night_ways h_night_how h_night_passed h_night_dreamOf h_night_stateOf h_night_roomOf h_night_handOf h_night_awake h_night_thingIn h_night_full h_night_heardBy : Nat) (v_marked : Int32) (v_refusal : Int32) (v_latestFault : Int32) (v_faultPlace : Int32) (v_inn_minutes : Int32) (v_inn_things : Int32) (v_inn_dreams : Int32) (v_inn_sleepers : Int32) (v_inn_listeners : Int32) (v_night_setting : Int32) (v_night_been : Int32) (v_night_heardBy : Nat → Int64) (N : Nat) (p0 : Int32) (p1 : Int32) (z0 : Int32) (z1 : Int32) (hf : fX10_heard N p0 p1 v_inn_listeners v_night_been v_night_heardBy = some (z0, z1)) : CTi l E yX10_heard cX10_heard 3 .int 2 42 [.ref h, .int p0, .int p1] (wX10_heard E h h_reader h_inn h_chosen h_night h_marks h_notes h_casts h_inn_house h_inn_thingIn h_inn_full h_inn_states h_inn_bed h_inn_dreamOf h_inn_listensIn h_night_ways h_night_how h_night_passed h_night_dreamOf h_night_stateOf h_night_roomOf h_night_handOf h_night_awake h_night_thingIn h_night_full h_night_heardBy v_marked v_refusal v_latestFault v_faultPlace v_inn_minutes v_inn_things v_inn_dreams v_inn_sleepers v_inn_listeners v_night_setting v_night_been v_night_heardBy) z0 (wX10_heard E h h_reader h_inn h_chosen h_night h_marks h_notes h_casts h_inn_house h_inn_thingIn h_inn_full h_inn_states h_inn_bed h_inn_dreamOf h_inn_listensIn h_night_ways h_night_how h_night_passed h_night_dreamOf h_night_stateOf h_night_roomOf h_night_handOf h_night_awake h_night_thingIn h_night_full h_night_heardBy v_marked z1 v_latestFault v_faultPlace v_inn_minutes v_inn_things v_inn_dreams v_inn_sleepers v_inn_listeners v_night_setting v_night_been v_night_heardBy) := by
  intro sz
  refine ct_body (by decide) (Nat.le_of_ble_eq_true rfl) ?_
  intro p e s m args below meth c A ls hAe C hr hin hP hD hS hl
  have C : CX p s m args meth c cX10_heard RX10 3 E A := C
  have hl : lv_has ls 3 [(0, .ref h), (1, .int p0), (2, .int p1)] := hl
  have hx := C.1
  have hb := C.2.1
  rw [hAe]
  clear hAe
  obtain ⟨Q, hQ⟩ : ∃ Q, Q = MQ below (Qi E A z0 (wX10_heard E h h_reader h_inn h_chosen h_night h_marks h_notes h_casts h_inn_house h_inn_thingIn h_inn_full h_inn_states h_inn_bed h_inn_dreamOf h_inn_listensIn h_night_ways h_night_how h_night_passed h_night_dreamOf h_night_stateOf h_night_roomOf h_night_handOf h_night_awake h_night_thingIn h_night_full h_night_heardBy v_marked z1 v_latestFault v_faultPlace v_inn_minutes v_inn_things v_inn_dreams v_inn_sleepers v_inn_listeners v_night_setting v_night_been v_night_heardBy)) args s 0 0 A := ⟨_, rfl⟩
  rw [← hQ]
  unfold fX10_heard at hf
  refine lv_aload_n hx hb dX10_heard_0 rfl (lv_at hl 0 rfl) ?_
  refine lv_iload_n hx hb dX10_heard_1 rfl (lv_at hl 1 rfl) ?_
  obtain ⟨r_2, hc_2, hf⟩ := bd1 hf
  refine r_callVi (ws' := (wX10_heard E h h_reader h_inn h_chosen h_night h_marks h_notes h_casts h_inn_house h_inn_thingIn h_inn_full h_inn_states h_inn_bed h_inn_dreamOf h_inn_listensIn h_night_ways h_night_how h_night_passed h_night_dreamOf h_night_stateOf h_night_roomOf h_night_handOf h_night_awake h_night_thingIn h_night_full h_night_heardBy v_marked v_refusal v_latestFault v_faultPlace v_inn_minutes v_inn_things v_inn_dreams v_inn_sleepers v_inn_listeners v_night_setting v_night_been v_night_heardBy)) (As := [.int p0]) (rest := []) C (ctX10_isListener l E h h_reader h_inn h_chosen h_night h_marks h_notes h_casts h_inn_house h_inn_thingIn h_inn_full h_inn_states h_inn_bed h_inn_dreamOf h_inn_listensIn v_marked v_refusal v_latestFault v_faultPlace v_inn_minutes v_inn_things v_inn_dreams v_inn_sleepers v_inn_listeners N p0 r_2 hc_2) ml_X10_222 ⟨Nat.le_of_ble_eq_true rfl, Nat.le_of_ble_eq_true rfl⟩ hP hD hS 0 rfl rfl rfl [0, 1] rfl rfl rfl rfl rfl hl.1 rfl (Nat.le_of_ble_eq_true rfl) ⟨Nat.zero_le _, Nat.zero_le _⟩ dX10_heard_2 ?_
  clear hP hD hS; intro H locs hP hD hS
  refine lv_if_eq (tgt := 24) hx hb dX10_heard_5 (by decide) (fun c_5 => ?_) (fun c_5 => ?_)
  · replace hf := it_t c_5 hf
    refine lv_aload_n hx hb dX10_heard_24 rfl (lv_at hl 0 rfl) ?_
    refine lv_iconst (v := 1) hx hb dX10_heard_25 (by decide) ?_
    obtain ⟨r_26, v_refusal_26, hc_26, hf⟩ := bd2 hf
    refine r_callVi (ws' := (wX10_heard E h h_reader h_inn h_chosen h_night h_marks h_notes h_casts h_inn_house h_inn_thingIn h_inn_full h_inn_states h_inn_bed h_inn_dreamOf h_inn_listensIn h_night_ways h_night_how h_night_passed h_night_dreamOf h_night_stateOf h_night_roomOf h_night_handOf h_night_awake h_night_thingIn h_night_full h_night_heardBy v_marked v_refusal_26 v_latestFault v_faultPlace v_inn_minutes v_inn_things v_inn_dreams v_inn_sleepers v_inn_listeners v_night_setting v_night_been v_night_heardBy)) (As := [.int 1]) (rest := []) C (ctX10_refuse l E h h_reader h_inn h_chosen h_night h_marks h_notes h_casts v_marked v_refusal v_latestFault v_faultPlace N 1 r_26 v_refusal_26 hc_26) ml_X10_68 ⟨Nat.le_of_ble_eq_true rfl, Nat.le_of_ble_eq_true rfl⟩ hP hD hS 0 rfl rfl rfl [0] rfl rfl rfl rfl rfl hl.1 rfl (Nat.le_of_ble_eq_true rfl) ⟨Nat.zero_le _, Nat.zero_le _⟩ dX10_heard_26 ?_
    clear hP hD hS; intro H locs hP hD hS
    cases hf
    rw [hQ]
    exact r_iret C hr hP hD hS rfl dX10_heard_29
  · replace hf := it_f c_5 hf
    refine lv_iload_n hx hb dX10_heard_8 rfl (lv_at hl 2 rfl) ?_
    refine lv_iconst (v := 1) hx hb dX10_heard_9 (by decide) ?_
    refine lv_icmp_lt (tgt := 24) hx hb dX10_heard_10 (by decide) (fun c_10 => ?_) (fun c_10 => ?_)
    · replace hf := it_t c_10 hf
      refine lv_aload_n hx hb dX10_heard_24 rfl (lv_at hl 0 rfl) ?_
      refine lv_iconst (v := 1) hx hb dX10_heard_25 (by decide) ?_
      obtain ⟨r_26, v_refusal_26, hc_26, hf⟩ := bd2 hf
      refine r_callVi (ws' := (wX10_heard E h h_reader h_inn h_chosen h_night h_marks h_notes h_casts h_inn_house h_inn_thingIn h_inn_full h_inn_states h_inn_bed h_inn_dreamOf h_inn_listensIn h_night_ways h_night_how h_night_passed h_night_dreamOf h_night_stateOf h_night_roomOf h_night_handOf h_night_awake h_night_thingIn h_night_full h_night_heardBy v_marked v_refusal_26 v_latestFault v_faultPlace v_inn_minutes v_inn_things v_inn_dreams v_inn_sleepers v_inn_listeners v_night_setting v_night_been v_night_heardBy)) (As := [.int 1]) (rest := []) C (ctX10_refuse l E h h_reader h_inn h_chosen h_night h_marks h_notes h_casts v_marked v_refusal v_latestFault v_faultPlace N 1 r_26 v_refusal_26 hc_26) ml_X10_68 ⟨Nat.le_of_ble_eq_true rfl, Nat.le_of_ble_eq_true rfl⟩ hP hD hS 0 rfl rfl rfl [0] rfl rfl rfl rfl rfl hl.1 rfl (Nat.le_of_ble_eq_true rfl) ⟨Nat.zero_le _, Nat.zero_le _⟩ dX10_heard_26 ?_
      clear hP hD hS; intro H locs hP hD hS
      cases hf
      rw [hQ]
      exact r_iret C hr hP hD hS rfl dX10_heard_29
    · replace hf := it_f c_10 hf
      refine lv_iload_n hx hb dX10_heard_13 rfl (lv_at hl 2 rfl) ?_
      refine lv_aload_n hx hb dX10_heard_14 rfl (lv_at hl 0 rfl) ?_
      refine r_get C hP 0 rfl fl_X10_32 rfl dX10_heard_15 ?_
      refine r_get C hP 2 rfl fl_X10_175 rfl dX10_heard_18 ?_
      refine lv_icmp_le (tgt := 30) hx hb dX10_heard_21 (by decide) (fun c_21 => ?_) (fun c_21 => ?_)
      · replace hf := it_t c_21 hf
        refine lv_aload_n hx hb dX10_heard_30 rfl (lv_at hl 0 rfl) ?_
        refine lv_aload_n hx hb dX10_heard_31 rfl (lv_at hl 0 rfl) ?_
        refine r_get C hP 0 rfl fl_X10_32 rfl dX10_heard_32 ?_
        refine r_get C hP 2 rfl fl_X10_225 rfl dX10_heard_35 ?_
        refine lv_iload_n hx hb dX10_heard_38 rfl (lv_at hl 1 rfl) ?_
        obtain ⟨hi_39, hf⟩ := gd_s hf
        refine r_lald C hP 3 rfl hi_39 dX10_heard_39 ?_
        refine lv_iload_n hx hb dX10_heard_40 rfl (lv_at hl 2 rfl) ?_
        obtain ⟨r_41, hc_41, hf⟩ := bd1 hf
        refine r_callSi (ws' := (wX10_heard E h h_reader h_inn h_chosen h_night h_marks h_notes h_casts h_inn_house h_inn_thingIn h_inn_full h_inn_states h_inn_bed h_inn_dreamOf h_inn_listensIn h_night_ways h_night_how h_night_passed h_night_dreamOf h_night_stateOf h_night_roomOf h_night_handOf h_night_awake h_night_thingIn h_night_full h_night_heardBy v_marked v_refusal v_latestFault v_faultPlace v_inn_minutes v_inn_things v_inn_dreams v_inn_sleepers v_inn_listeners v_night_setting v_night_been v_night_heardBy)) (As := [.long (v_night_heardBy p0.toNatClampNeg), .int p1]) (rest := [.ref h]) C (ctX10_isBitSet l E N (v_night_heardBy p0.toNatClampNeg) p1 r_41 hc_41) ml_X10_229 ⟨Nat.le_of_ble_eq_true rfl, Nat.le_of_ble_eq_true rfl⟩ hP hD hS [] rfl rfl rfl rfl rfl hl.1 rfl (Nat.le_of_ble_eq_true rfl) ⟨Nat.zero_le _, Nat.zero_le _⟩ dX10_heard_41 ?_
        clear hP hD hS; intro H locs hP hD hS
        obtain ⟨r_44, hc_44, hf⟩ := bd1 hf
        refine r_callSi (ws' := (wX10_heard E h h_reader h_inn h_chosen h_night h_marks h_notes h_casts h_inn_house h_inn_thingIn h_inn_full h_inn_states h_inn_bed h_inn_dreamOf h_inn_listensIn h_night_ways h_night_how h_night_passed h_night_dreamOf h_night_stateOf h_night_roomOf h_night_handOf h_night_awake h_night_thingIn h_night_full h_night_heardBy v_marked v_refusal v_latestFault v_faultPlace v_inn_minutes v_inn_things v_inn_dreams v_inn_sleepers v_inn_listeners v_night_setting v_night_been v_night_heardBy)) (As := [.int r_41]) (rest := [.ref h]) C (ctX10_bit l E N r_41 r_44 hc_44) ml_X10_132 ⟨Nat.le_of_ble_eq_true rfl, Nat.le_of_ble_eq_true rfl⟩ hP hD hS [] rfl rfl rfl rfl rfl hl.1 rfl (Nat.le_of_ble_eq_true rfl) ⟨Nat.zero_le _, Nat.zero_le _⟩ dX10_heard_44 ?_
        clear hP hD hS; intro H locs hP hD hS
        obtain ⟨r_47, v_refusal_47, hc_47, hf⟩ := bd2 hf
        refine r_callVi (ws' := (wX10_heard E h h_reader h_inn h_chosen h_night h_marks h_notes h_casts h_inn_house h_inn_thingIn h_inn_full h_inn_states h_inn_bed h_inn_dreamOf h_inn_listensIn h_night_ways h_night_how h_night_passed h_night_dreamOf h_night_stateOf h_night_roomOf h_night_handOf h_night_awake h_night_thingIn h_night_full h_night_heardBy v_marked v_refusal_47 v_latestFault v_faultPlace v_inn_minutes v_inn_things v_inn_dreams v_inn_sleepers v_inn_listeners v_night_setting v_night_been v_night_heardBy)) (As := [.int r_44]) (rest := []) C (ctX10_answer l E h h_reader h_inn h_chosen h_night h_marks h_notes h_casts v_marked v_refusal v_latestFault v_faultPlace N r_44 r_47 v_refusal_47 hc_47) ml_X10_95 ⟨Nat.le_of_ble_eq_true rfl, Nat.le_of_ble_eq_true rfl⟩ hP hD hS 0 rfl rfl rfl [0] rfl rfl rfl rfl rfl hl.1 rfl (Nat.le_of_ble_eq_true rfl) ⟨Nat.zero_le _, Nat.zero_le _⟩ dX10_heard_47 ?_
        clear hP hD hS; intro H locs hP hD hS
        cases hf
        rw [hQ]
        exact r_iret C hr hP hD hS rfl dX10_heard_50
      · replace hf := it_f c_21 hf
        refine lv_aload_n hx hb dX10_heard_24 rfl (lv_at hl 0 rfl) ?_
        refine lv_iconst (v := 1) hx hb dX10_heard_25 (by decide) ?_
        obtain ⟨r_26, v_refusal_26, hc_26, hf⟩ := bd2 hf
        refine r_callVi (ws' := (wX10_heard E h h_reader h_inn h_chosen h_night h_marks h_notes h_casts h_inn_house h_inn_thingIn h_inn_full h_inn_states h_inn_bed h_inn_dreamOf h_inn_listensIn h_night_ways h_night_how h_night_passed h_night_dreamOf h_night_stateOf h_night_roomOf h_night_handOf h_night_awake h_night_thingIn h_night_full h_night_heardBy v_marked v_refusal_26 v_latestFault v_faultPlace v_inn_minutes v_inn_things v_inn_dreams v_inn_sleepers v_inn_listeners v_night_setting v_night_been v_night_heardBy)) (As := [.int 1]) (rest := []) C (ctX10_refuse l E h h_reader h_inn h_chosen h_night h_marks h_notes h_casts v_marked v_refusal v_latestFault v_faultPlace N 1 r_26 v_refusal_26 hc_26) ml_X10_68 ⟨Nat.le_of_ble_eq_true rfl, Nat.le_of_ble_eq_true rfl⟩ hP hD hS 0 rfl rfl rfl [0] rfl rfl rfl rfl rfl hl.1 rfl (Nat.le_of_ble_eq_true rfl) ⟨Nat.zero_le _, Nat.zero_le _⟩ dX10_heard_26 ?_
        clear hP hD hS; intro H locs hP hD hS
        cases hf
        rw [hQ]
        exact r_iret C hr hP hD hS rfl dX10_heard_29
def wJ13_bitCount_95d88 (E : EN) : va_W := []
def fJ13_bitCount_95d88 (N : Nat) (p0 : Int64) : Option Int32 := some ((((((((((p0 - (((p0.toUInt64 >>> ((1 : Int32).toInt64.toUInt64 &&& Int64.toUInt64 63)).toInt64) &&& 6148914691236517205)) &&& 3689348814741910323) + ((((p0 - (((p0.toUInt64 >>> ((1 : Int32).toInt64.toUInt64 &&& Int64.toUInt64 63)).toInt64) &&& 6148914691236517205)).toUInt64 >>> ((2 : Int32).toInt64.toUInt64 &&& Int64.toUInt64 63)).toInt64) &&& 3689348814741910323)) + (((((p0 - (((p0.toUInt64 >>> ((1 : Int32).toInt64.toUInt64 &&& Int64.toUInt64 63)).toInt64) &&& 6148914691236517205)) &&& 3689348814741910323) + ((((p0 - (((p0.toUInt64 >>> ((1 : Int32).toInt64.toUInt64 &&& Int64.toUInt64 63)).toInt64) &&& 6148914691236517205)).toUInt64 >>> ((2 : Int32).toInt64.toUInt64 &&& Int64.toUInt64 63)).toInt64) &&& 3689348814741910323)).toUInt64 >>> ((4 : Int32).toInt64.toUInt64 &&& Int64.toUInt64 63)).toInt64)) &&& 1085102592571150095) + (((((((p0 - (((p0.toUInt64 >>> ((1 : Int32).toInt64.toUInt64 &&& Int64.toUInt64 63)).toInt64) &&& 6148914691236517205)) &&& 3689348814741910323) + ((((p0 - (((p0.toUInt64 >>> ((1 : Int32).toInt64.toUInt64 &&& Int64.toUInt64 63)).toInt64) &&& 6148914691236517205)).toUInt64 >>> ((2 : Int32).toInt64.toUInt64 &&& Int64.toUInt64 63)).toInt64) &&& 3689348814741910323)) + (((((p0 - (((p0.toUInt64 >>> ((1 : Int32).toInt64.toUInt64 &&& Int64.toUInt64 63)).toInt64) &&& 6148914691236517205)) &&& 3689348814741910323) + ((((p0 - (((p0.toUInt64 >>> ((1 : Int32).toInt64.toUInt64 &&& Int64.toUInt64 63)).toInt64) &&& 6148914691236517205)).toUInt64 >>> ((2 : Int32).toInt64.toUInt64 &&& Int64.toUInt64 63)).toInt64) &&& 3689348814741910323)).toUInt64 >>> ((4 : Int32).toInt64.toUInt64 &&& Int64.toUInt64 63)).toInt64)) &&& 1085102592571150095).toUInt64 >>> ((8 : Int32).toInt64.toUInt64 &&& Int64.toUInt64 63)).toInt64)) + ((((((((p0 - (((p0.toUInt64 >>> ((1 : Int32).toInt64.toUInt64 &&& Int64.toUInt64 63)).toInt64) &&& 6148914691236517205)) &&& 3689348814741910323) + ((((p0 - (((p0.toUInt64 >>> ((1 : Int32).toInt64.toUInt64 &&& Int64.toUInt64 63)).toInt64) &&& 6148914691236517205)).toUInt64 >>> ((2 : Int32).toInt64.toUInt64 &&& Int64.toUInt64 63)).toInt64) &&& 3689348814741910323)) + (((((p0 - (((p0.toUInt64 >>> ((1 : Int32).toInt64.toUInt64 &&& Int64.toUInt64 63)).toInt64) &&& 6148914691236517205)) &&& 3689348814741910323) + ((((p0 - (((p0.toUInt64 >>> ((1 : Int32).toInt64.toUInt64 &&& Int64.toUInt64 63)).toInt64) &&& 6148914691236517205)).toUInt64 >>> ((2 : Int32).toInt64.toUInt64 &&& Int64.toUInt64 63)).toInt64) &&& 3689348814741910323)).toUInt64 >>> ((4 : Int32).toInt64.toUInt64 &&& Int64.toUInt64 63)).toInt64)) &&& 1085102592571150095) + (((((((p0 - (((p0.toUInt64 >>> ((1 : Int32).toInt64.toUInt64 &&& Int64.toUInt64 63)).toInt64) &&& 6148914691236517205)) &&& 3689348814741910323) + ((((p0 - (((p0.toUInt64 >>> ((1 : Int32).toInt64.toUInt64 &&& Int64.toUInt64 63)).toInt64) &&& 6148914691236517205)).toUInt64 >>> ((2 : Int32).toInt64.toUInt64 &&& Int64.toUInt64 63)).toInt64) &&& 3689348814741910323)) + (((((p0 - (((p0.toUInt64 >>> ((1 : Int32).toInt64.toUInt64 &&& Int64.toUInt64 63)).toInt64) &&& 6148914691236517205)) &&& 3689348814741910323) + ((((p0 - (((p0.toUInt64 >>> ((1 : Int32).toInt64.toUInt64 &&& Int64.toUInt64 63)).toInt64) &&& 6148914691236517205)).toUInt64 >>> ((2 : Int32).toInt64.toUInt64 &&& Int64.toUInt64 63)).toInt64) &&& 3689348814741910323)).toUInt64 >>> ((4 : Int32).toInt64.toUInt64 &&& Int64.toUInt64 63)).toInt64)) &&& 1085102592571150095).toUInt64 >>> ((8 : Int32).toInt64.toUInt64 &&& Int64.toUInt64 63)).toInt64)).toUInt64 >>> ((16 : Int32).toInt64.toUInt64 &&& Int64.toUInt64 63)).toInt64)) + (((((((((p0 - (((p0.toUInt64 >>> ((1 : Int32).toInt64.toUInt64 &&& Int64.toUInt64 63)).toInt64) &&& 6148914691236517205)) &&& 3689348814741910323) + ((((p0 - (((p0.toUInt64 >>> ((1 : Int32).toInt64.toUInt64 &&& Int64.toUInt64 63)).toInt64) &&& 6148914691236517205)).toUInt64 >>> ((2 : Int32).toInt64.toUInt64 &&& Int64.toUInt64 63)).toInt64) &&& 3689348814741910323)) + (((((p0 - (((p0.toUInt64 >>> ((1 : Int32).toInt64.toUInt64 &&& Int64.toUInt64 63)).toInt64) &&& 6148914691236517205)) &&& 3689348814741910323) + ((((p0 - (((p0.toUInt64 >>> ((1 : Int32).toInt64.toUInt64 &&& Int64.toUInt64 63)).toInt64) &&& 6148914691236517205)).toUInt64 >>> ((2 : Int32).toInt64.toUInt64 &&& Int64.toUInt64 63)).toInt64) &&& 3689348814741910323)).toUInt64 >>> ((4 : Int32).toInt64.toUInt64 &&& Int64.toUInt64 63)).toInt64)) &&& 1085102592571150095) + (((((((p0 - (((p0.toUInt64 >>> ((1 : Int32).toInt64.toUInt64 &&& Int64.toUInt64 63)).toInt64) &&& 6148914691236517205)) &&& 3689348814741910323) + ((((p0 - (((p0.toUInt64 >>> ((1 : Int32).toInt64.toUInt64 &&& Int64.toUInt64 63)).toInt64) &&& 6148914691236517205)).toUInt64 >>> ((2 : Int32).toInt64.toUInt64 &&& Int64.toUInt64 63)).toInt64) &&& 3689348814741910323)) + (((((p0 - (((p0.toUInt64 >>> ((1 : Int32).toInt64.toUInt64 &&& Int64.toUInt64 63)).toInt64) &&& 6148914691236517205)) &&& 3689348814741910323) + ((((p0 - (((p0.toUInt64 >>> ((1 : Int32).toInt64.toUInt64 &&& Int64.toUInt64 63)).toInt64) &&& 6148914691236517205)).toUInt64 >>> ((2 : Int32).toInt64.toUInt64 &&& Int64.toUInt64 63)).toInt64) &&& 3689348814741910323)).toUInt64 >>> ((4 : Int32).toInt64.toUInt64 &&& Int64.toUInt64 63)).toInt64)) &&& 1085102592571150095).toUInt64 >>> ((8 : Int32).toInt64.toUInt64 &&& Int64.toUInt64 63)).toInt64)) + ((((((((p0 - (((p0.toUInt64 >>> ((1 : Int32).toInt64.toUInt64 &&& Int64.toUInt64 63)).toInt64) &&& 6148914691236517205)) &&& 3689348814741910323) + ((((p0 - (((p0.toUInt64 >>> ((1 : Int32).toInt64.toUInt64 &&& Int64.toUInt64 63)).toInt64) &&& 6148914691236517205)).toUInt64 >>> ((2 : Int32).toInt64.toUInt64 &&& Int64.toUInt64 63)).toInt64) &&& 3689348814741910323)) + (((((p0 - (((p0.toUInt64 >>> ((1 : Int32).toInt64.toUInt64 &&& Int64.toUInt64 63)).toInt64) &&& 6148914691236517205)) &&& 3689348814741910323) + ((((p0 - (((p0.toUInt64 >>> ((1 : Int32).toInt64.toUInt64 &&& Int64.toUInt64 63)).toInt64) &&& 6148914691236517205)).toUInt64 >>> ((2 : Int32).toInt64.toUInt64 &&& Int64.toUInt64 63)).toInt64) &&& 3689348814741910323)).toUInt64 >>> ((4 : Int32).toInt64.toUInt64 &&& Int64.toUInt64 63)).toInt64)) &&& 1085102592571150095) + (((((((p0 - (((p0.toUInt64 >>> ((1 : Int32).toInt64.toUInt64 &&& Int64.toUInt64 63)).toInt64) &&& 6148914691236517205)) &&& 3689348814741910323) + ((((p0 - (((p0.toUInt64 >>> ((1 : Int32).toInt64.toUInt64 &&& Int64.toUInt64 63)).toInt64) &&& 6148914691236517205)).toUInt64 >>> ((2 : Int32).toInt64.toUInt64 &&& Int64.toUInt64 63)).toInt64) &&& 3689348814741910323)) + (((((p0 - (((p0.toUInt64 >>> ((1 : Int32).toInt64.toUInt64 &&& Int64.toUInt64 63)).toInt64) &&& 6148914691236517205)) &&& 3689348814741910323) + ((((p0 - (((p0.toUInt64 >>> ((1 : Int32).toInt64.toUInt64 &&& Int64.toUInt64 63)).toInt64) &&& 6148914691236517205)).toUInt64 >>> ((2 : Int32).toInt64.toUInt64 &&& Int64.toUInt64 63)).toInt64) &&& 3689348814741910323)).toUInt64 >>> ((4 : Int32).toInt64.toUInt64 &&& Int64.toUInt64 63)).toInt64)) &&& 1085102592571150095).toUInt64 >>> ((8 : Int32).toInt64.toUInt64 &&& Int64.toUInt64 63)).toInt64)).toUInt64 >>> ((16 : Int32).toInt64.toUInt64 &&& Int64.toUInt64 63)).toInt64)).toUInt64 >>> ((32 : Int32).toInt64.toUInt64 &&& Int64.toUInt64 63)).toInt64)).toInt32) &&& 127)
set_option maxHeartbeats 4000000 in
set_option maxRecDepth 100000 in
theorem ctJ13_bitCount_95d88 (l : Launch) (E : EN) (N : Nat) (p0 : Int64) (z0 : Int32) (hf : fJ13_bitCount_95d88 N p0 = some z0) : CTi l E yJ13_bitCount_95d88 cJ13_bitCount_95d88 2 .int 0 0 [.long p0] (wJ13_bitCount_95d88 E) z0 (wJ13_bitCount_95d88 E) := by
  intro sz
  refine ct_body (by decide) (Nat.le_of_ble_eq_true rfl) ?_
  intro p e s m args below meth c A ls hAe C hr hin hP hD hS hl
  have C : CX p s m args meth c cJ13_bitCount_95d88 RJ13 2 E A := C
  have hl : lv_has ls 2 [(0, .long p0)] := hl
  have hx := C.1
  have hb := C.2.1
  rw [hAe]
  clear hAe
  obtain ⟨Q, hQ⟩ : ∃ Q, Q = MQ below (Qi E A z0 (wJ13_bitCount_95d88 E)) args s 0 0 A := ⟨_, rfl⟩
  rw [← hQ]
  unfold fJ13_bitCount_95d88 at hf
  refine lv_lload_n hx hb dJ13_bitCount_95d88_0 rfl (lv_at hl 0 rfl) ?_
  refine lv_lload_n hx hb dJ13_bitCount_95d88_1 rfl (lv_at hl 0 rfl) ?_
  refine lv_iconst (v := 1) hx hb dJ13_bitCount_95d88_2 (by decide) ?_
  refine lv_lushr (v := (p0.toUInt64 >>> ((1 : Int32).toInt64.toUInt64 &&& Int64.toUInt64 63)).toInt64) hx hb dJ13_bitCount_95d88_3 rfl ?_
  refine lv_ldc2 (v := 6148914691236517205) hx hb C.2.2.2.1 (C.2.2.2.2.1 _ kl_J13_314) dJ13_bitCount_95d88_4 ?_
  refine lv_land hx hb dJ13_bitCount_95d88_7 ?_
  refine lv_lsub hx hb dJ13_bitCount_95d88_8 ?_
  refine lv_lstore_n (lv' := [(0, .long (p0 - (((p0.toUInt64 >>> ((1 : Int32).toInt64.toUInt64 &&& Int64.toUInt64 63)).toInt64) &&& 6148914691236517205)))]) hx hb dJ13_bitCount_95d88_9 rfl hl (by decide) rfl (fun ls hl => ?_)
  refine lv_lload_n hx hb dJ13_bitCount_95d88_10 rfl (lv_at hl 0 rfl) ?_
  refine lv_ldc2 (v := 3689348814741910323) hx hb C.2.2.2.1 (C.2.2.2.2.1 _ kl_J13_316) dJ13_bitCount_95d88_11 ?_
  refine lv_land hx hb dJ13_bitCount_95d88_14 ?_
  refine lv_lload_n hx hb dJ13_bitCount_95d88_15 rfl (lv_at hl 0 rfl) ?_
  refine lv_iconst (v := 2) hx hb dJ13_bitCount_95d88_16 (by decide) ?_
  refine lv_lushr (v := ((p0 - (((p0.toUInt64 >>> ((1 : Int32).toInt64.toUInt64 &&& Int64.toUInt64 63)).toInt64) &&& 6148914691236517205)).toUInt64 >>> ((2 : Int32).toInt64.toUInt64 &&& Int64.toUInt64 63)).toInt64) hx hb dJ13_bitCount_95d88_17 rfl ?_
  refine lv_ldc2 (v := 3689348814741910323) hx hb C.2.2.2.1 (C.2.2.2.2.1 _ kl_J13_316) dJ13_bitCount_95d88_18 ?_
  refine lv_land hx hb dJ13_bitCount_95d88_21 ?_
  refine lv_ladd hx hb dJ13_bitCount_95d88_22 ?_
  refine lv_lstore_n (lv' := [(0, .long (((p0 - (((p0.toUInt64 >>> ((1 : Int32).toInt64.toUInt64 &&& Int64.toUInt64 63)).toInt64) &&& 6148914691236517205)) &&& 3689348814741910323) + ((((p0 - (((p0.toUInt64 >>> ((1 : Int32).toInt64.toUInt64 &&& Int64.toUInt64 63)).toInt64) &&& 6148914691236517205)).toUInt64 >>> ((2 : Int32).toInt64.toUInt64 &&& Int64.toUInt64 63)).toInt64) &&& 3689348814741910323)))]) hx hb dJ13_bitCount_95d88_23 rfl hl (by decide) rfl (fun ls hl => ?_)
  refine lv_lload_n hx hb dJ13_bitCount_95d88_24 rfl (lv_at hl 0 rfl) ?_
  refine lv_lload_n hx hb dJ13_bitCount_95d88_25 rfl (lv_at hl 0 rfl) ?_
  refine lv_iconst (v := 4) hx hb dJ13_bitCount_95d88_26 (by decide) ?_
  refine lv_lushr (v := ((((p0 - (((p0.toUInt64 >>> ((1 : Int32).toInt64.toUInt64 &&& Int64.toUInt64 63)).toInt64) &&& 6148914691236517205)) &&& 3689348814741910323) + ((((p0 - (((p0.toUInt64 >>> ((1 : Int32).toInt64.toUInt64 &&& Int64.toUInt64 63)).toInt64) &&& 6148914691236517205)).toUInt64 >>> ((2 : Int32).toInt64.toUInt64 &&& Int64.toUInt64 63)).toInt64) &&& 3689348814741910323)).toUInt64 >>> ((4 : Int32).toInt64.toUInt64 &&& Int64.toUInt64 63)).toInt64) hx hb dJ13_bitCount_95d88_27 rfl ?_
  refine lv_ladd hx hb dJ13_bitCount_95d88_28 ?_
  refine lv_ldc2 (v := 1085102592571150095) hx hb C.2.2.2.1 (C.2.2.2.2.1 _ kl_J13_318) dJ13_bitCount_95d88_29 ?_
  refine lv_land hx hb dJ13_bitCount_95d88_32 ?_
  refine lv_lstore_n (lv' := [(0, .long (((((p0 - (((p0.toUInt64 >>> ((1 : Int32).toInt64.toUInt64 &&& Int64.toUInt64 63)).toInt64) &&& 6148914691236517205)) &&& 3689348814741910323) + ((((p0 - (((p0.toUInt64 >>> ((1 : Int32).toInt64.toUInt64 &&& Int64.toUInt64 63)).toInt64) &&& 6148914691236517205)).toUInt64 >>> ((2 : Int32).toInt64.toUInt64 &&& Int64.toUInt64 63)).toInt64) &&& 3689348814741910323)) + (((((p0 - (((p0.toUInt64 >>> ((1 : Int32).toInt64.toUInt64 &&& Int64.toUInt64 63)).toInt64) &&& 6148914691236517205)) &&& 3689348814741910323) + ((((p0 - (((p0.toUInt64 >>> ((1 : Int32).toInt64.toUInt64 &&& Int64.toUInt64 63)).toInt64) &&& 6148914691236517205)).toUInt64 >>> ((2 : Int32).toInt64.toUInt64 &&& Int64.toUInt64 63)).toInt64) &&& 3689348814741910323)).toUInt64 >>> ((4 : Int32).toInt64.toUInt64 &&& Int64.toUInt64 63)).toInt64)) &&& 1085102592571150095))]) hx hb dJ13_bitCount_95d88_33 rfl hl (by decide) rfl (fun ls hl => ?_)
  refine lv_lload_n hx hb dJ13_bitCount_95d88_34 rfl (lv_at hl 0 rfl) ?_
  refine lv_lload_n hx hb dJ13_bitCount_95d88_35 rfl (lv_at hl 0 rfl) ?_
  refine lv_bipush (v := 8) hx hb dJ13_bitCount_95d88_36 (by decide) ?_
  refine lv_lushr (v := ((((((p0 - (((p0.toUInt64 >>> ((1 : Int32).toInt64.toUInt64 &&& Int64.toUInt64 63)).toInt64) &&& 6148914691236517205)) &&& 3689348814741910323) + ((((p0 - (((p0.toUInt64 >>> ((1 : Int32).toInt64.toUInt64 &&& Int64.toUInt64 63)).toInt64) &&& 6148914691236517205)).toUInt64 >>> ((2 : Int32).toInt64.toUInt64 &&& Int64.toUInt64 63)).toInt64) &&& 3689348814741910323)) + (((((p0 - (((p0.toUInt64 >>> ((1 : Int32).toInt64.toUInt64 &&& Int64.toUInt64 63)).toInt64) &&& 6148914691236517205)) &&& 3689348814741910323) + ((((p0 - (((p0.toUInt64 >>> ((1 : Int32).toInt64.toUInt64 &&& Int64.toUInt64 63)).toInt64) &&& 6148914691236517205)).toUInt64 >>> ((2 : Int32).toInt64.toUInt64 &&& Int64.toUInt64 63)).toInt64) &&& 3689348814741910323)).toUInt64 >>> ((4 : Int32).toInt64.toUInt64 &&& Int64.toUInt64 63)).toInt64)) &&& 1085102592571150095).toUInt64 >>> ((8 : Int32).toInt64.toUInt64 &&& Int64.toUInt64 63)).toInt64) hx hb dJ13_bitCount_95d88_38 rfl ?_
  refine lv_ladd hx hb dJ13_bitCount_95d88_39 ?_
  refine lv_lstore_n (lv' := [(0, .long ((((((p0 - (((p0.toUInt64 >>> ((1 : Int32).toInt64.toUInt64 &&& Int64.toUInt64 63)).toInt64) &&& 6148914691236517205)) &&& 3689348814741910323) + ((((p0 - (((p0.toUInt64 >>> ((1 : Int32).toInt64.toUInt64 &&& Int64.toUInt64 63)).toInt64) &&& 6148914691236517205)).toUInt64 >>> ((2 : Int32).toInt64.toUInt64 &&& Int64.toUInt64 63)).toInt64) &&& 3689348814741910323)) + (((((p0 - (((p0.toUInt64 >>> ((1 : Int32).toInt64.toUInt64 &&& Int64.toUInt64 63)).toInt64) &&& 6148914691236517205)) &&& 3689348814741910323) + ((((p0 - (((p0.toUInt64 >>> ((1 : Int32).toInt64.toUInt64 &&& Int64.toUInt64 63)).toInt64) &&& 6148914691236517205)).toUInt64 >>> ((2 : Int32).toInt64.toUInt64 &&& Int64.toUInt64 63)).toInt64) &&& 3689348814741910323)).toUInt64 >>> ((4 : Int32).toInt64.toUInt64 &&& Int64.toUInt64 63)).toInt64)) &&& 1085102592571150095) + (((((((p0 - (((p0.toUInt64 >>> ((1 : Int32).toInt64.toUInt64 &&& Int64.toUInt64 63)).toInt64) &&& 6148914691236517205)) &&& 3689348814741910323) + ((((p0 - (((p0.toUInt64 >>> ((1 : Int32).toInt64.toUInt64 &&& Int64.toUInt64 63)).toInt64) &&& 6148914691236517205)).toUInt64 >>> ((2 : Int32).toInt64.toUInt64 &&& Int64.toUInt64 63)).toInt64) &&& 3689348814741910323)) + (((((p0 - (((p0.toUInt64 >>> ((1 : Int32).toInt64.toUInt64 &&& Int64.toUInt64 63)).toInt64) &&& 6148914691236517205)) &&& 3689348814741910323) + ((((p0 - (((p0.toUInt64 >>> ((1 : Int32).toInt64.toUInt64 &&& Int64.toUInt64 63)).toInt64) &&& 6148914691236517205)).toUInt64 >>> ((2 : Int32).toInt64.toUInt64 &&& Int64.toUInt64 63)).toInt64) &&& 3689348814741910323)).toUInt64 >>> ((4 : Int32).toInt64.toUInt64 &&& Int64.toUInt64 63)).toInt64)) &&& 1085102592571150095).toUInt64 >>> ((8 : Int32).toInt64.toUInt64 &&& Int64.toUInt64 63)).toInt64)))]) hx hb dJ13_bitCount_95d88_40 rfl hl (by decide) rfl (fun ls hl => ?_)
  refine lv_lload_n hx hb dJ13_bitCount_95d88_41 rfl (lv_at hl 0 rfl) ?_
  refine lv_lload_n hx hb dJ13_bitCount_95d88_42 rfl (lv_at hl 0 rfl) ?_
  refine lv_bipush (v := 16) hx hb dJ13_bitCount_95d88_43 (by decide) ?_
  refine lv_lushr (v := (((((((p0 - (((p0.toUInt64 >>> ((1 : Int32).toInt64.toUInt64 &&& Int64.toUInt64 63)).toInt64) &&& 6148914691236517205)) &&& 3689348814741910323) + ((((p0 - (((p0.toUInt64 >>> ((1 : Int32).toInt64.toUInt64 &&& Int64.toUInt64 63)).toInt64) &&& 6148914691236517205)).toUInt64 >>> ((2 : Int32).toInt64.toUInt64 &&& Int64.toUInt64 63)).toInt64) &&& 3689348814741910323)) + (((((p0 - (((p0.toUInt64 >>> ((1 : Int32).toInt64.toUInt64 &&& Int64.toUInt64 63)).toInt64) &&& 6148914691236517205)) &&& 3689348814741910323) + ((((p0 - (((p0.toUInt64 >>> ((1 : Int32).toInt64.toUInt64 &&& Int64.toUInt64 63)).toInt64) &&& 6148914691236517205)).toUInt64 >>> ((2 : Int32).toInt64.toUInt64 &&& Int64.toUInt64 63)).toInt64) &&& 3689348814741910323)).toUInt64 >>> ((4 : Int32).toInt64.toUInt64 &&& Int64.toUInt64 63)).toInt64)) &&& 1085102592571150095) + (((((((p0 - (((p0.toUInt64 >>> ((1 : Int32).toInt64.toUInt64 &&& Int64.toUInt64 63)).toInt64) &&& 6148914691236517205)) &&& 3689348814741910323) + ((((p0 - (((p0.toUInt64 >>> ((1 : Int32).toInt64.toUInt64 &&& Int64.toUInt64 63)).toInt64) &&& 6148914691236517205)).toUInt64 >>> ((2 : Int32).toInt64.toUInt64 &&& Int64.toUInt64 63)).toInt64) &&& 3689348814741910323)) + (((((p0 - (((p0.toUInt64 >>> ((1 : Int32).toInt64.toUInt64 &&& Int64.toUInt64 63)).toInt64) &&& 6148914691236517205)) &&& 3689348814741910323) + ((((p0 - (((p0.toUInt64 >>> ((1 : Int32).toInt64.toUInt64 &&& Int64.toUInt64 63)).toInt64) &&& 6148914691236517205)).toUInt64 >>> ((2 : Int32).toInt64.toUInt64 &&& Int64.toUInt64 63)).toInt64) &&& 3689348814741910323)).toUInt64 >>> ((4 : Int32).toInt64.toUInt64 &&& Int64.toUInt64 63)).toInt64)) &&& 1085102592571150095).toUInt64 >>> ((8 : Int32).toInt64.toUInt64 &&& Int64.toUInt64 63)).toInt64)).toUInt64 >>> ((16 : Int32).toInt64.toUInt64 &&& Int64.toUInt64 63)).toInt64) hx hb dJ13_bitCount_95d88_45 rfl ?_
  refine lv_ladd hx hb dJ13_bitCount_95d88_46 ?_
  refine lv_lstore_n (lv' := [(0, .long (((((((p0 - (((p0.toUInt64 >>> ((1 : Int32).toInt64.toUInt64 &&& Int64.toUInt64 63)).toInt64) &&& 6148914691236517205)) &&& 3689348814741910323) + ((((p0 - (((p0.toUInt64 >>> ((1 : Int32).toInt64.toUInt64 &&& Int64.toUInt64 63)).toInt64) &&& 6148914691236517205)).toUInt64 >>> ((2 : Int32).toInt64.toUInt64 &&& Int64.toUInt64 63)).toInt64) &&& 3689348814741910323)) + (((((p0 - (((p0.toUInt64 >>> ((1 : Int32).toInt64.toUInt64 &&& Int64.toUInt64 63)).toInt64) &&& 6148914691236517205)) &&& 3689348814741910323) + ((((p0 - (((p0.toUInt64 >>> ((1 : Int32).toInt64.toUInt64 &&& Int64.toUInt64 63)).toInt64) &&& 6148914691236517205)).toUInt64 >>> ((2 : Int32).toInt64.toUInt64 &&& Int64.toUInt64 63)).toInt64) &&& 3689348814741910323)).toUInt64 >>> ((4 : Int32).toInt64.toUInt64 &&& Int64.toUInt64 63)).toInt64)) &&& 1085102592571150095) + (((((((p0 - (((p0.toUInt64 >>> ((1 : Int32).toInt64.toUInt64 &&& Int64.toUInt64 63)).toInt64) &&& 6148914691236517205)) &&& 3689348814741910323) + ((((p0 - (((p0.toUInt64 >>> ((1 : Int32).toInt64.toUInt64 &&& Int64.toUInt64 63)).toInt64) &&& 6148914691236517205)).toUInt64 >>> ((2 : Int32).toInt64.toUInt64 &&& Int64.toUInt64 63)).toInt64) &&& 3689348814741910323)) + (((((p0 - (((p0.toUInt64 >>> ((1 : Int32).toInt64.toUInt64 &&& Int64.toUInt64 63)).toInt64) &&& 6148914691236517205)) &&& 3689348814741910323) + ((((p0 - (((p0.toUInt64 >>> ((1 : Int32).toInt64.toUInt64 &&& Int64.toUInt64 63)).toInt64) &&& 6148914691236517205)).toUInt64 >>> ((2 : Int32).toInt64.toUInt64 &&& Int64.toUInt64 63)).toInt64) &&& 3689348814741910323)).toUInt64 >>> ((4 : Int32).toInt64.toUInt64 &&& Int64.toUInt64 63)).toInt64)) &&& 1085102592571150095).toUInt64 >>> ((8 : Int32).toInt64.toUInt64 &&& Int64.toUInt64 63)).toInt64)) + ((((((((p0 - (((p0.toUInt64 >>> ((1 : Int32).toInt64.toUInt64 &&& Int64.toUInt64 63)).toInt64) &&& 6148914691236517205)) &&& 3689348814741910323) + ((((p0 - (((p0.toUInt64 >>> ((1 : Int32).toInt64.toUInt64 &&& Int64.toUInt64 63)).toInt64) &&& 6148914691236517205)).toUInt64 >>> ((2 : Int32).toInt64.toUInt64 &&& Int64.toUInt64 63)).toInt64) &&& 3689348814741910323)) + (((((p0 - (((p0.toUInt64 >>> ((1 : Int32).toInt64.toUInt64 &&& Int64.toUInt64 63)).toInt64) &&& 6148914691236517205)) &&& 3689348814741910323) + ((((p0 - (((p0.toUInt64 >>> ((1 : Int32).toInt64.toUInt64 &&& Int64.toUInt64 63)).toInt64) &&& 6148914691236517205)).toUInt64 >>> ((2 : Int32).toInt64.toUInt64 &&& Int64.toUInt64 63)).toInt64) &&& 3689348814741910323)).toUInt64 >>> ((4 : Int32).toInt64.toUInt64 &&& Int64.toUInt64 63)).toInt64)) &&& 1085102592571150095) + (((((((p0 - (((p0.toUInt64 >>> ((1 : Int32).toInt64.toUInt64 &&& Int64.toUInt64 63)).toInt64) &&& 6148914691236517205)) &&& 3689348814741910323) + ((((p0 - (((p0.toUInt64 >>> ((1 : Int32).toInt64.toUInt64 &&& Int64.toUInt64 63)).toInt64) &&& 6148914691236517205)).toUInt64 >>> ((2 : Int32).toInt64.toUInt64 &&& Int64.toUInt64 63)).toInt64) &&& 3689348814741910323)) + (((((p0 - (((p0.toUInt64 >>> ((1 : Int32).toInt64.toUInt64 &&& Int64.toUInt64 63)).toInt64) &&& 6148914691236517205)) &&& 3689348814741910323) + ((((p0 - (((p0.toUInt64 >>> ((1 : Int32).toInt64.toUInt64 &&& Int64.toUInt64 63)).toInt64) &&& 6148914691236517205)).toUInt64 >>> ((2 : Int32).toInt64.toUInt64 &&& Int64.toUInt64 63)).toInt64) &&& 3689348814741910323)).toUInt64 >>> ((4 : Int32).toInt64.toUInt64 &&& Int64.toUInt64 63)).toInt64)) &&& 1085102592571150095).toUInt64 >>> ((8 : Int32).toInt64.toUInt64 &&& Int64.toUInt64 63)).toInt64)).toUInt64 >>> ((16 : Int32).toInt64.toUInt64 &&& Int64.toUInt64 63)).toInt64)))]) hx hb dJ13_bitCount_95d88_47 rfl hl (by decide) rfl (fun ls hl => ?_)
  refine lv_lload_n hx hb dJ13_bitCount_95d88_48 rfl (lv_at hl 0 rfl) ?_
  refine lv_lload_n hx hb dJ13_bitCount_95d88_49 rfl (lv_at hl 0 rfl) ?_
  refine lv_bipush (v := 32) hx hb dJ13_bitCount_95d88_50 (by decide) ?_
  refine lv_lushr (v := ((((((((p0 - (((p0.toUInt64 >>> ((1 : Int32).toInt64.toUInt64 &&& Int64.toUInt64 63)).toInt64) &&& 6148914691236517205)) &&& 3689348814741910323) + ((((p0 - (((p0.toUInt64 >>> ((1 : Int32).toInt64.toUInt64 &&& Int64.toUInt64 63)).toInt64) &&& 6148914691236517205)).toUInt64 >>> ((2 : Int32).toInt64.toUInt64 &&& Int64.toUInt64 63)).toInt64) &&& 3689348814741910323)) + (((((p0 - (((p0.toUInt64 >>> ((1 : Int32).toInt64.toUInt64 &&& Int64.toUInt64 63)).toInt64) &&& 6148914691236517205)) &&& 3689348814741910323) + ((((p0 - (((p0.toUInt64 >>> ((1 : Int32).toInt64.toUInt64 &&& Int64.toUInt64 63)).toInt64) &&& 6148914691236517205)).toUInt64 >>> ((2 : Int32).toInt64.toUInt64 &&& Int64.toUInt64 63)).toInt64) &&& 3689348814741910323)).toUInt64 >>> ((4 : Int32).toInt64.toUInt64 &&& Int64.toUInt64 63)).toInt64)) &&& 1085102592571150095) + (((((((p0 - (((p0.toUInt64 >>> ((1 : Int32).toInt64.toUInt64 &&& Int64.toUInt64 63)).toInt64) &&& 6148914691236517205)) &&& 3689348814741910323) + ((((p0 - (((p0.toUInt64 >>> ((1 : Int32).toInt64.toUInt64 &&& Int64.toUInt64 63)).toInt64) &&& 6148914691236517205)).toUInt64 >>> ((2 : Int32).toInt64.toUInt64 &&& Int64.toUInt64 63)).toInt64) &&& 3689348814741910323)) + (((((p0 - (((p0.toUInt64 >>> ((1 : Int32).toInt64.toUInt64 &&& Int64.toUInt64 63)).toInt64) &&& 6148914691236517205)) &&& 3689348814741910323) + ((((p0 - (((p0.toUInt64 >>> ((1 : Int32).toInt64.toUInt64 &&& Int64.toUInt64 63)).toInt64) &&& 6148914691236517205)).toUInt64 >>> ((2 : Int32).toInt64.toUInt64 &&& Int64.toUInt64 63)).toInt64) &&& 3689348814741910323)).toUInt64 >>> ((4 : Int32).toInt64.toUInt64 &&& Int64.toUInt64 63)).toInt64)) &&& 1085102592571150095).toUInt64 >>> ((8 : Int32).toInt64.toUInt64 &&& Int64.toUInt64 63)).toInt64)) + ((((((((p0 - (((p0.toUInt64 >>> ((1 : Int32).toInt64.toUInt64 &&& Int64.toUInt64 63)).toInt64) &&& 6148914691236517205)) &&& 3689348814741910323) + ((((p0 - (((p0.toUInt64 >>> ((1 : Int32).toInt64.toUInt64 &&& Int64.toUInt64 63)).toInt64) &&& 6148914691236517205)).toUInt64 >>> ((2 : Int32).toInt64.toUInt64 &&& Int64.toUInt64 63)).toInt64) &&& 3689348814741910323)) + (((((p0 - (((p0.toUInt64 >>> ((1 : Int32).toInt64.toUInt64 &&& Int64.toUInt64 63)).toInt64) &&& 6148914691236517205)) &&& 3689348814741910323) + ((((p0 - (((p0.toUInt64 >>> ((1 : Int32).toInt64.toUInt64 &&& Int64.toUInt64 63)).toInt64) &&& 6148914691236517205)).toUInt64 >>> ((2 : Int32).toInt64.toUInt64 &&& Int64.toUInt64 63)).toInt64) &&& 3689348814741910323)).toUInt64 >>> ((4 : Int32).toInt64.toUInt64 &&& Int64.toUInt64 63)).toInt64)) &&& 1085102592571150095) + (((((((p0 - (((p0.toUInt64 >>> ((1 : Int32).toInt64.toUInt64 &&& Int64.toUInt64 63)).toInt64) &&& 6148914691236517205)) &&& 3689348814741910323) + ((((p0 - (((p0.toUInt64 >>> ((1 : Int32).toInt64.toUInt64 &&& Int64.toUInt64 63)).toInt64) &&& 6148914691236517205)).toUInt64 >>> ((2 : Int32).toInt64.toUInt64 &&& Int64.toUInt64 63)).toInt64) &&& 3689348814741910323)) + (((((p0 - (((p0.toUInt64 >>> ((1 : Int32).toInt64.toUInt64 &&& Int64.toUInt64 63)).toInt64) &&& 6148914691236517205)) &&& 3689348814741910323) + ((((p0 - (((p0.toUInt64 >>> ((1 : Int32).toInt64.toUInt64 &&& Int64.toUInt64 63)).toInt64) &&& 6148914691236517205)).toUInt64 >>> ((2 : Int32).toInt64.toUInt64 &&& Int64.toUInt64 63)).toInt64) &&& 3689348814741910323)).toUInt64 >>> ((4 : Int32).toInt64.toUInt64 &&& Int64.toUInt64 63)).toInt64)) &&& 1085102592571150095).toUInt64 >>> ((8 : Int32).toInt64.toUInt64 &&& Int64.toUInt64 63)).toInt64)).toUInt64 >>> ((16 : Int32).toInt64.toUInt64 &&& Int64.toUInt64 63)).toInt64)).toUInt64 >>> ((32 : Int32).toInt64.toUInt64 &&& Int64.toUInt64 63)).toInt64) hx hb dJ13_bitCount_95d88_52 rfl ?_
  refine lv_ladd hx hb dJ13_bitCount_95d88_53 ?_
  refine lv_lstore_n (lv' := [(0, .long ((((((((p0 - (((p0.toUInt64 >>> ((1 : Int32).toInt64.toUInt64 &&& Int64.toUInt64 63)).toInt64) &&& 6148914691236517205)) &&& 3689348814741910323) + ((((p0 - (((p0.toUInt64 >>> ((1 : Int32).toInt64.toUInt64 &&& Int64.toUInt64 63)).toInt64) &&& 6148914691236517205)).toUInt64 >>> ((2 : Int32).toInt64.toUInt64 &&& Int64.toUInt64 63)).toInt64) &&& 3689348814741910323)) + (((((p0 - (((p0.toUInt64 >>> ((1 : Int32).toInt64.toUInt64 &&& Int64.toUInt64 63)).toInt64) &&& 6148914691236517205)) &&& 3689348814741910323) + ((((p0 - (((p0.toUInt64 >>> ((1 : Int32).toInt64.toUInt64 &&& Int64.toUInt64 63)).toInt64) &&& 6148914691236517205)).toUInt64 >>> ((2 : Int32).toInt64.toUInt64 &&& Int64.toUInt64 63)).toInt64) &&& 3689348814741910323)).toUInt64 >>> ((4 : Int32).toInt64.toUInt64 &&& Int64.toUInt64 63)).toInt64)) &&& 1085102592571150095) + (((((((p0 - (((p0.toUInt64 >>> ((1 : Int32).toInt64.toUInt64 &&& Int64.toUInt64 63)).toInt64) &&& 6148914691236517205)) &&& 3689348814741910323) + ((((p0 - (((p0.toUInt64 >>> ((1 : Int32).toInt64.toUInt64 &&& Int64.toUInt64 63)).toInt64) &&& 6148914691236517205)).toUInt64 >>> ((2 : Int32).toInt64.toUInt64 &&& Int64.toUInt64 63)).toInt64) &&& 3689348814741910323)) + (((((p0 - (((p0.toUInt64 >>> ((1 : Int32).toInt64.toUInt64 &&& Int64.toUInt64 63)).toInt64) &&& 6148914691236517205)) &&& 3689348814741910323) + ((((p0 - (((p0.toUInt64 >>> ((1 : Int32).toInt64.toUInt64 &&& Int64.toUInt64 63)).toInt64) &&& 6148914691236517205)).toUInt64 >>> ((2 : Int32).toInt64.toUInt64 &&& Int64.toUInt64 63)).toInt64) &&& 3689348814741910323)).toUInt64 >>> ((4 : Int32).toInt64.toUInt64 &&& Int64.toUInt64 63)).toInt64)) &&& 1085102592571150095).toUInt64 >>> ((8 : Int32).toInt64.toUInt64 &&& Int64.toUInt64 63)).toInt64)) + ((((((((p0 - (((p0.toUInt64 >>> ((1 : Int32).toInt64.toUInt64 &&& Int64.toUInt64 63)).toInt64) &&& 6148914691236517205)) &&& 3689348814741910323) + ((((p0 - (((p0.toUInt64 >>> ((1 : Int32).toInt64.toUInt64 &&& Int64.toUInt64 63)).toInt64) &&& 6148914691236517205)).toUInt64 >>> ((2 : Int32).toInt64.toUInt64 &&& Int64.toUInt64 63)).toInt64) &&& 3689348814741910323)) + (((((p0 - (((p0.toUInt64 >>> ((1 : Int32).toInt64.toUInt64 &&& Int64.toUInt64 63)).toInt64) &&& 6148914691236517205)) &&& 3689348814741910323) + ((((p0 - (((p0.toUInt64 >>> ((1 : Int32).toInt64.toUInt64 &&& Int64.toUInt64 63)).toInt64) &&& 6148914691236517205)).toUInt64 >>> ((2 : Int32).toInt64.toUInt64 &&& Int64.toUInt64 63)).toInt64) &&& 3689348814741910323)).toUInt64 >>> ((4 : Int32).toInt64.toUInt64 &&& Int64.toUInt64 63)).toInt64)) &&& 1085102592571150095) + (((((((p0 - (((p0.toUInt64 >>> ((1 : Int32).toInt64.toUInt64 &&& Int64.toUInt64 63)).toInt64) &&& 6148914691236517205)) &&& 3689348814741910323) + ((((p0 - (((p0.toUInt64 >>> ((1 : Int32).toInt64.toUInt64 &&& Int64.toUInt64 63)).toInt64) &&& 6148914691236517205)).toUInt64 >>> ((2 : Int32).toInt64.toUInt64 &&& Int64.toUInt64 63)).toInt64) &&& 3689348814741910323)) + (((((p0 - (((p0.toUInt64 >>> ((1 : Int32).toInt64.toUInt64 &&& Int64.toUInt64 63)).toInt64) &&& 6148914691236517205)) &&& 3689348814741910323) + ((((p0 - (((p0.toUInt64 >>> ((1 : Int32).toInt64.toUInt64 &&& Int64.toUInt64 63)).toInt64) &&& 6148914691236517205)).toUInt64 >>> ((2 : Int32).toInt64.toUInt64 &&& Int64.toUInt64 63)).toInt64) &&& 3689348814741910323)).toUInt64 >>> ((4 : Int32).toInt64.toUInt64 &&& Int64.toUInt64 63)).toInt64)) &&& 1085102592571150095).toUInt64 >>> ((8 : Int32).toInt64.toUInt64 &&& Int64.toUInt64 63)).toInt64)).toUInt64 >>> ((16 : Int32).toInt64.toUInt64 &&& Int64.toUInt64 63)).toInt64)) + (((((((((p0 - (((p0.toUInt64 >>> ((1 : Int32).toInt64.toUInt64 &&& Int64.toUInt64 63)).toInt64) &&& 6148914691236517205)) &&& 3689348814741910323) + ((((p0 - (((p0.toUInt64 >>> ((1 : Int32).toInt64.toUInt64 &&& Int64.toUInt64 63)).toInt64) &&& 6148914691236517205)).toUInt64 >>> ((2 : Int32).toInt64.toUInt64 &&& Int64.toUInt64 63)).toInt64) &&& 3689348814741910323)) + (((((p0 - (((p0.toUInt64 >>> ((1 : Int32).toInt64.toUInt64 &&& Int64.toUInt64 63)).toInt64) &&& 6148914691236517205)) &&& 3689348814741910323) + ((((p0 - (((p0.toUInt64 >>> ((1 : Int32).toInt64.toUInt64 &&& Int64.toUInt64 63)).toInt64) &&& 6148914691236517205)).toUInt64 >>> ((2 : Int32).toInt64.toUInt64 &&& Int64.toUInt64 63)).toInt64) &&& 3689348814741910323)).toUInt64 >>> ((4 : Int32).toInt64.toUInt64 &&& Int64.toUInt64 63)).toInt64)) &&& 1085102592571150095) + (((((((p0 - (((p0.toUInt64 >>> ((1 : Int32).toInt64.toUInt64 &&& Int64.toUInt64 63)).toInt64) &&& 6148914691236517205)) &&& 3689348814741910323) + ((((p0 - (((p0.toUInt64 >>> ((1 : Int32).toInt64.toUInt64 &&& Int64.toUInt64 63)).toInt64) &&& 6148914691236517205)).toUInt64 >>> ((2 : Int32).toInt64.toUInt64 &&& Int64.toUInt64 63)).toInt64) &&& 3689348814741910323)) + (((((p0 - (((p0.toUInt64 >>> ((1 : Int32).toInt64.toUInt64 &&& Int64.toUInt64 63)).toInt64) &&& 6148914691236517205)) &&& 3689348814741910323) + ((((p0 - (((p0.toUInt64 >>> ((1 : Int32).toInt64.toUInt64 &&& Int64.toUInt64 63)).toInt64) &&& 6148914691236517205)).toUInt64 >>> ((2 : Int32).toInt64.toUInt64 &&& Int64.toUInt64 63)).toInt64) &&& 3689348814741910323)).toUInt64 >>> ((4 : Int32).toInt64.toUInt64 &&& Int64.toUInt64 63)).toInt64)) &&& 1085102592571150095).toUInt64 >>> ((8 : Int32).toInt64.toUInt64 &&& Int64.toUInt64 63)).toInt64)) + ((((((((p0 - (((p0.toUInt64 >>> ((1 : Int32).toInt64.toUInt64 &&& Int64.toUInt64 63)).toInt64) &&& 6148914691236517205)) &&& 3689348814741910323) + ((((p0 - (((p0.toUInt64 >>> ((1 : Int32).toInt64.toUInt64 &&& Int64.toUInt64 63)).toInt64) &&& 6148914691236517205)).toUInt64 >>> ((2 : Int32).toInt64.toUInt64 &&& Int64.toUInt64 63)).toInt64) &&& 3689348814741910323)) + (((((p0 - (((p0.toUInt64 >>> ((1 : Int32).toInt64.toUInt64 &&& Int64.toUInt64 63)).toInt64) &&& 6148914691236517205)) &&& 3689348814741910323) + ((((p0 - (((p0.toUInt64 >>> ((1 : Int32).toInt64.toUInt64 &&& Int64.toUInt64 63)).toInt64) &&& 6148914691236517205)).toUInt64 >>> ((2 : Int32).toInt64.toUInt64 &&& Int64.toUInt64 63)).toInt64) &&& 3689348814741910323)).toUInt64 >>> ((4 : Int32).toInt64.toUInt64 &&& Int64.toUInt64 63)).toInt64)) &&& 1085102592571150095) + (((((((p0 - (((p0.toUInt64 >>> ((1 : Int32).toInt64.toUInt64 &&& Int64.toUInt64 63)).toInt64) &&& 6148914691236517205)) &&& 3689348814741910323) + ((((p0 - (((p0.toUInt64 >>> ((1 : Int32).toInt64.toUInt64 &&& Int64.toUInt64 63)).toInt64) &&& 6148914691236517205)).toUInt64 >>> ((2 : Int32).toInt64.toUInt64 &&& Int64.toUInt64 63)).toInt64) &&& 3689348814741910323)) + (((((p0 - (((p0.toUInt64 >>> ((1 : Int32).toInt64.toUInt64 &&& Int64.toUInt64 63)).toInt64) &&& 6148914691236517205)) &&& 3689348814741910323) + ((((p0 - (((p0.toUInt64 >>> ((1 : Int32).toInt64.toUInt64 &&& Int64.toUInt64 63)).toInt64) &&& 6148914691236517205)).toUInt64 >>> ((2 : Int32).toInt64.toUInt64 &&& Int64.toUInt64 63)).toInt64) &&& 3689348814741910323)).toUInt64 >>> ((4 : Int32).toInt64.toUInt64 &&& Int64.toUInt64 63)).toInt64)) &&& 1085102592571150095).toUInt64 >>> ((8 : Int32).toInt64.toUInt64 &&& Int64.toUInt64 63)).toInt64)).toUInt64 >>> ((16 : Int32).toInt64.toUInt64 &&& Int64.toUInt64 63)).toInt64)).toUInt64 >>> ((32 : Int32).toInt64.toUInt64 &&& Int64.toUInt64 63)).toInt64)))]) hx hb dJ13_bitCount_95d88_54 rfl hl (by decide) rfl (fun ls hl => ?_)
  refine lv_lload_n hx hb dJ13_bitCount_95d88_55 rfl (lv_at hl 0 rfl) ?_
  refine lv_l2i (v := ((((((((p0 - (((p0.toUInt64 >>> ((1 : Int32).toInt64.toUInt64 &&& Int64.toUInt64 63)).toInt64) &&& 6148914691236517205)) &&& 3689348814741910323) + ((((p0 - (((p0.toUInt64 >>> ((1 : Int32).toInt64.toUInt64 &&& Int64.toUInt64 63)).toInt64) &&& 6148914691236517205)).toUInt64 >>> ((2 : Int32).toInt64.toUInt64 &&& Int64.toUInt64 63)).toInt64) &&& 3689348814741910323)) + (((((p0 - (((p0.toUInt64 >>> ((1 : Int32).toInt64.toUInt64 &&& Int64.toUInt64 63)).toInt64) &&& 6148914691236517205)) &&& 3689348814741910323) + ((((p0 - (((p0.toUInt64 >>> ((1 : Int32).toInt64.toUInt64 &&& Int64.toUInt64 63)).toInt64) &&& 6148914691236517205)).toUInt64 >>> ((2 : Int32).toInt64.toUInt64 &&& Int64.toUInt64 63)).toInt64) &&& 3689348814741910323)).toUInt64 >>> ((4 : Int32).toInt64.toUInt64 &&& Int64.toUInt64 63)).toInt64)) &&& 1085102592571150095) + (((((((p0 - (((p0.toUInt64 >>> ((1 : Int32).toInt64.toUInt64 &&& Int64.toUInt64 63)).toInt64) &&& 6148914691236517205)) &&& 3689348814741910323) + ((((p0 - (((p0.toUInt64 >>> ((1 : Int32).toInt64.toUInt64 &&& Int64.toUInt64 63)).toInt64) &&& 6148914691236517205)).toUInt64 >>> ((2 : Int32).toInt64.toUInt64 &&& Int64.toUInt64 63)).toInt64) &&& 3689348814741910323)) + (((((p0 - (((p0.toUInt64 >>> ((1 : Int32).toInt64.toUInt64 &&& Int64.toUInt64 63)).toInt64) &&& 6148914691236517205)) &&& 3689348814741910323) + ((((p0 - (((p0.toUInt64 >>> ((1 : Int32).toInt64.toUInt64 &&& Int64.toUInt64 63)).toInt64) &&& 6148914691236517205)).toUInt64 >>> ((2 : Int32).toInt64.toUInt64 &&& Int64.toUInt64 63)).toInt64) &&& 3689348814741910323)).toUInt64 >>> ((4 : Int32).toInt64.toUInt64 &&& Int64.toUInt64 63)).toInt64)) &&& 1085102592571150095).toUInt64 >>> ((8 : Int32).toInt64.toUInt64 &&& Int64.toUInt64 63)).toInt64)) + ((((((((p0 - (((p0.toUInt64 >>> ((1 : Int32).toInt64.toUInt64 &&& Int64.toUInt64 63)).toInt64) &&& 6148914691236517205)) &&& 3689348814741910323) + ((((p0 - (((p0.toUInt64 >>> ((1 : Int32).toInt64.toUInt64 &&& Int64.toUInt64 63)).toInt64) &&& 6148914691236517205)).toUInt64 >>> ((2 : Int32).toInt64.toUInt64 &&& Int64.toUInt64 63)).toInt64) &&& 3689348814741910323)) + (((((p0 - (((p0.toUInt64 >>> ((1 : Int32).toInt64.toUInt64 &&& Int64.toUInt64 63)).toInt64) &&& 6148914691236517205)) &&& 3689348814741910323) + ((((p0 - (((p0.toUInt64 >>> ((1 : Int32).toInt64.toUInt64 &&& Int64.toUInt64 63)).toInt64) &&& 6148914691236517205)).toUInt64 >>> ((2 : Int32).toInt64.toUInt64 &&& Int64.toUInt64 63)).toInt64) &&& 3689348814741910323)).toUInt64 >>> ((4 : Int32).toInt64.toUInt64 &&& Int64.toUInt64 63)).toInt64)) &&& 1085102592571150095) + (((((((p0 - (((p0.toUInt64 >>> ((1 : Int32).toInt64.toUInt64 &&& Int64.toUInt64 63)).toInt64) &&& 6148914691236517205)) &&& 3689348814741910323) + ((((p0 - (((p0.toUInt64 >>> ((1 : Int32).toInt64.toUInt64 &&& Int64.toUInt64 63)).toInt64) &&& 6148914691236517205)).toUInt64 >>> ((2 : Int32).toInt64.toUInt64 &&& Int64.toUInt64 63)).toInt64) &&& 3689348814741910323)) + (((((p0 - (((p0.toUInt64 >>> ((1 : Int32).toInt64.toUInt64 &&& Int64.toUInt64 63)).toInt64) &&& 6148914691236517205)) &&& 3689348814741910323) + ((((p0 - (((p0.toUInt64 >>> ((1 : Int32).toInt64.toUInt64 &&& Int64.toUInt64 63)).toInt64) &&& 6148914691236517205)).toUInt64 >>> ((2 : Int32).toInt64.toUInt64 &&& Int64.toUInt64 63)).toInt64) &&& 3689348814741910323)).toUInt64 >>> ((4 : Int32).toInt64.toUInt64 &&& Int64.toUInt64 63)).toInt64)) &&& 1085102592571150095).toUInt64 >>> ((8 : Int32).toInt64.toUInt64 &&& Int64.toUInt64 63)).toInt64)).toUInt64 >>> ((16 : Int32).toInt64.toUInt64 &&& Int64.toUInt64 63)).toInt64)) + (((((((((p0 - (((p0.toUInt64 >>> ((1 : Int32).toInt64.toUInt64 &&& Int64.toUInt64 63)).toInt64) &&& 6148914691236517205)) &&& 3689348814741910323) + ((((p0 - (((p0.toUInt64 >>> ((1 : Int32).toInt64.toUInt64 &&& Int64.toUInt64 63)).toInt64) &&& 6148914691236517205)).toUInt64 >>> ((2 : Int32).toInt64.toUInt64 &&& Int64.toUInt64 63)).toInt64) &&& 3689348814741910323)) + (((((p0 - (((p0.toUInt64 >>> ((1 : Int32).toInt64.toUInt64 &&& Int64.toUInt64 63)).toInt64) &&& 6148914691236517205)) &&& 3689348814741910323) + ((((p0 - (((p0.toUInt64 >>> ((1 : Int32).toInt64.toUInt64 &&& Int64.toUInt64 63)).toInt64) &&& 6148914691236517205)).toUInt64 >>> ((2 : Int32).toInt64.toUInt64 &&& Int64.toUInt64 63)).toInt64) &&& 3689348814741910323)).toUInt64 >>> ((4 : Int32).toInt64.toUInt64 &&& Int64.toUInt64 63)).toInt64)) &&& 1085102592571150095) + (((((((p0 - (((p0.toUInt64 >>> ((1 : Int32).toInt64.toUInt64 &&& Int64.toUInt64 63)).toInt64) &&& 6148914691236517205)) &&& 3689348814741910323) + ((((p0 - (((p0.toUInt64 >>> ((1 : Int32).toInt64.toUInt64 &&& Int64.toUInt64 63)).toInt64) &&& 6148914691236517205)).toUInt64 >>> ((2 : Int32).toInt64.toUInt64 &&& Int64.toUInt64 63)).toInt64) &&& 3689348814741910323)) + (((((p0 - (((p0.toUInt64 >>> ((1 : Int32).toInt64.toUInt64 &&& Int64.toUInt64 63)).toInt64) &&& 6148914691236517205)) &&& 3689348814741910323) + ((((p0 - (((p0.toUInt64 >>> ((1 : Int32).toInt64.toUInt64 &&& Int64.toUInt64 63)).toInt64) &&& 6148914691236517205)).toUInt64 >>> ((2 : Int32).toInt64.toUInt64 &&& Int64.toUInt64 63)).toInt64) &&& 3689348814741910323)).toUInt64 >>> ((4 : Int32).toInt64.toUInt64 &&& Int64.toUInt64 63)).toInt64)) &&& 1085102592571150095).toUInt64 >>> ((8 : Int32).toInt64.toUInt64 &&& Int64.toUInt64 63)).toInt64)) + ((((((((p0 - (((p0.toUInt64 >>> ((1 : Int32).toInt64.toUInt64 &&& Int64.toUInt64 63)).toInt64) &&& 6148914691236517205)) &&& 3689348814741910323) + ((((p0 - (((p0.toUInt64 >>> ((1 : Int32).toInt64.toUInt64 &&& Int64.toUInt64 63)).toInt64) &&& 6148914691236517205)).toUInt64 >>> ((2 : Int32).toInt64.toUInt64 &&& Int64.toUInt64 63)).toInt64) &&& 3689348814741910323)) + (((((p0 - (((p0.toUInt64 >>> ((1 : Int32).toInt64.toUInt64 &&& Int64.toUInt64 63)).toInt64) &&& 6148914691236517205)) &&& 3689348814741910323) + ((((p0 - (((p0.toUInt64 >>> ((1 : Int32).toInt64.toUInt64 &&& Int64.toUInt64 63)).toInt64) &&& 6148914691236517205)).toUInt64 >>> ((2 : Int32).toInt64.toUInt64 &&& Int64.toUInt64 63)).toInt64) &&& 3689348814741910323)).toUInt64 >>> ((4 : Int32).toInt64.toUInt64 &&& Int64.toUInt64 63)).toInt64)) &&& 1085102592571150095) + (((((((p0 - (((p0.toUInt64 >>> ((1 : Int32).toInt64.toUInt64 &&& Int64.toUInt64 63)).toInt64) &&& 6148914691236517205)) &&& 3689348814741910323) + ((((p0 - (((p0.toUInt64 >>> ((1 : Int32).toInt64.toUInt64 &&& Int64.toUInt64 63)).toInt64) &&& 6148914691236517205)).toUInt64 >>> ((2 : Int32).toInt64.toUInt64 &&& Int64.toUInt64 63)).toInt64) &&& 3689348814741910323)) + (((((p0 - (((p0.toUInt64 >>> ((1 : Int32).toInt64.toUInt64 &&& Int64.toUInt64 63)).toInt64) &&& 6148914691236517205)) &&& 3689348814741910323) + ((((p0 - (((p0.toUInt64 >>> ((1 : Int32).toInt64.toUInt64 &&& Int64.toUInt64 63)).toInt64) &&& 6148914691236517205)).toUInt64 >>> ((2 : Int32).toInt64.toUInt64 &&& Int64.toUInt64 63)).toInt64) &&& 3689348814741910323)).toUInt64 >>> ((4 : Int32).toInt64.toUInt64 &&& Int64.toUInt64 63)).toInt64)) &&& 1085102592571150095).toUInt64 >>> ((8 : Int32).toInt64.toUInt64 &&& Int64.toUInt64 63)).toInt64)).toUInt64 >>> ((16 : Int32).toInt64.toUInt64 &&& Int64.toUInt64 63)).toInt64)).toUInt64 >>> ((32 : Int32).toInt64.toUInt64 &&& Int64.toUInt64 63)).toInt64)).toInt32) hx hb dJ13_bitCount_95d88_56 rfl ?_
  refine lv_bipush (v := 127) hx hb dJ13_bitCount_95d88_57 (by decide) ?_
  refine lv_iand hx hb dJ13_bitCount_95d88_59 ?_
  cases hf
  rw [hQ]
  exact r_iret C hr hP hD hS rfl dJ13_bitCount_95d88_60
def wX10_creaks (E : EN) (h h_reader h_inn h_chosen h_night h_marks h_notes h_casts h_inn_house h_inn_thingIn h_inn_full h_inn_states h_inn_bed h_inn_dreamOf h_inn_listensIn h_night_ways h_night_how h_night_passed h_night_dreamOf h_night_stateOf h_night_roomOf h_night_handOf h_night_awake h_night_thingIn h_night_full h_night_heardBy : Nat) (v_marked : Int32) (v_refusal : Int32) (v_latestFault : Int32) (v_faultPlace : Int32) (v_inn_minutes : Int32) (v_inn_things : Int32) (v_inn_dreams : Int32) (v_inn_sleepers : Int32) (v_inn_listeners : Int32) (v_night_setting : Int32) (v_night_been : Int32) (v_night_heardBy : Nat → Int64) : va_W := [(h, .inr (9, [.ref h_reader, .ref h_inn, .ref h_chosen, .ref h_night, .ref h_marks, .int v_marked, .ref h_notes, .ref h_casts, .int v_refusal, .int v_latestFault, .int v_faultPlace])), (h_inn, .inr (2, [.ref h_inn_house, .int v_inn_minutes, .int v_inn_things, .ref h_inn_thingIn, .ref h_inn_full, .int v_inn_dreams, .ref h_inn_states, .int v_inn_sleepers, .ref h_inn_bed, .ref h_inn_dreamOf, .int v_inn_listeners, .ref h_inn_listensIn])), (h_night, .inr (4, [.ref h_inn, .int v_night_setting, .int v_night_been, .ref h_night_ways, .ref h_night_how, .ref h_night_passed, .ref h_night_dreamOf, .ref h_night_stateOf, .ref h_night_roomOf, .ref h_night_handOf, .ref h_night_awake, .ref h_night_thingIn, .ref h_night_full, .ref h_night_heardBy])), (h_night_heardBy, aJ E 3 v_night_heardBy)]
def fX10_creaks (N : Nat) (p0 : Int32) (v_inn_listeners : Int32) (v_night_heardBy : Nat → Int64) : Option (Int32 × Int32) := (fX10_isListener N p0 v_inn_listeners).bind (un1 fun (r_2 : Int32) => if r_2 = 0 then ((fX10_refuse N 1).bind (un2 fun (r_10 : Int32) (v_refusal_10 : Int32) => some (r_10, v_refusal_10))) else (gd p0 3 ((fJ13_bitCount_95d88 N (v_night_heardBy p0.toNatClampNeg)).bind (un1 fun (r_24 : Int32) => (fX10_answer N r_24).bind (un2 fun (r_27 : Int32) (v_refusal_27 : Int32) => some (r_27, v_refusal_27))))))
set_option maxHeartbeats 4000000 in
set_option maxRecDepth 100000 in
theorem ctX10_creaks (l : Launch) (E : EN) (h h_reader h_inn h_chosen h_night h_marks h_notes h_casts h_inn_house h_inn_thingIn h_inn_full h_inn_states h_inn_bed h_inn_dreamOf h_inn_listensIn h_night_ways h_night_how h_night_passed h_night_dreamOf h_night_stateOf h_night_roomOf h_night_handOf h_night_awake h_night_thingIn h_night_full h_night_heardBy : Nat) (v_marked : Int32) (v_refusal : Int32) (v_latestFault : Int32) (v_faultPlace : Int32) (v_inn_minutes : Int32) (v_inn_things : Int32) (v_inn_dreams : Int32) (v_inn_sleepers : Int32) (v_inn_listeners : Int32) (v_night_setting : Int32) (v_night_been : Int32) (v_night_heardBy : Nat → Int64) (N : Nat) (p0 : Int32) (z0 : Int32) (z1 : Int32) (hf : fX10_creaks N p0 v_inn_listeners v_night_heardBy = some (z0, z1)) : CTi l E yX10_creaks cX10_creaks 2 .int 2 42 [.ref h, .int p0] (wX10_creaks E h h_reader h_inn h_chosen h_night h_marks h_notes h_casts h_inn_house h_inn_thingIn h_inn_full h_inn_states h_inn_bed h_inn_dreamOf h_inn_listensIn h_night_ways h_night_how h_night_passed h_night_dreamOf h_night_stateOf h_night_roomOf h_night_handOf h_night_awake h_night_thingIn h_night_full h_night_heardBy v_marked v_refusal v_latestFault v_faultPlace v_inn_minutes v_inn_things v_inn_dreams v_inn_sleepers v_inn_listeners v_night_setting v_night_been v_night_heardBy) z0 (wX10_creaks E h h_reader h_inn h_chosen h_night h_marks h_notes h_casts h_inn_house h_inn_thingIn h_inn_full h_inn_states h_inn_bed h_inn_dreamOf h_inn_listensIn h_night_ways h_night_how h_night_passed h_night_dreamOf h_night_stateOf h_night_roomOf h_night_handOf h_night_awake h_night_thingIn h_night_full h_night_heardBy v_marked z1 v_latestFault v_faultPlace v_inn_minutes v_inn_things v_inn_dreams v_inn_sleepers v_inn_listeners v_night_setting v_night_been v_night_heardBy) := by
  intro sz
  refine ct_body (by decide) (Nat.le_of_ble_eq_true rfl) ?_
  intro p e s m args below meth c A ls hAe C hr hin hP hD hS hl
  have C : CX p s m args meth c cX10_creaks RX10 2 E A := C
  have hl : lv_has ls 2 [(0, .ref h), (1, .int p0)] := hl
  have hx := C.1
  have hb := C.2.1
  rw [hAe]
  clear hAe
  obtain ⟨Q, hQ⟩ : ∃ Q, Q = MQ below (Qi E A z0 (wX10_creaks E h h_reader h_inn h_chosen h_night h_marks h_notes h_casts h_inn_house h_inn_thingIn h_inn_full h_inn_states h_inn_bed h_inn_dreamOf h_inn_listensIn h_night_ways h_night_how h_night_passed h_night_dreamOf h_night_stateOf h_night_roomOf h_night_handOf h_night_awake h_night_thingIn h_night_full h_night_heardBy v_marked z1 v_latestFault v_faultPlace v_inn_minutes v_inn_things v_inn_dreams v_inn_sleepers v_inn_listeners v_night_setting v_night_been v_night_heardBy)) args s 0 0 A := ⟨_, rfl⟩
  rw [← hQ]
  unfold fX10_creaks at hf
  refine lv_aload_n hx hb dX10_creaks_0 rfl (lv_at hl 0 rfl) ?_
  refine lv_iload_n hx hb dX10_creaks_1 rfl (lv_at hl 1 rfl) ?_
  obtain ⟨r_2, hc_2, hf⟩ := bd1 hf
  refine r_callVi (ws' := (wX10_creaks E h h_reader h_inn h_chosen h_night h_marks h_notes h_casts h_inn_house h_inn_thingIn h_inn_full h_inn_states h_inn_bed h_inn_dreamOf h_inn_listensIn h_night_ways h_night_how h_night_passed h_night_dreamOf h_night_stateOf h_night_roomOf h_night_handOf h_night_awake h_night_thingIn h_night_full h_night_heardBy v_marked v_refusal v_latestFault v_faultPlace v_inn_minutes v_inn_things v_inn_dreams v_inn_sleepers v_inn_listeners v_night_setting v_night_been v_night_heardBy)) (As := [.int p0]) (rest := []) C (ctX10_isListener l E h h_reader h_inn h_chosen h_night h_marks h_notes h_casts h_inn_house h_inn_thingIn h_inn_full h_inn_states h_inn_bed h_inn_dreamOf h_inn_listensIn v_marked v_refusal v_latestFault v_faultPlace v_inn_minutes v_inn_things v_inn_dreams v_inn_sleepers v_inn_listeners N p0 r_2 hc_2) ml_X10_222 ⟨Nat.le_of_ble_eq_true rfl, Nat.le_of_ble_eq_true rfl⟩ hP hD hS 0 rfl rfl rfl [0, 1] rfl rfl rfl rfl rfl hl.1 rfl (Nat.le_of_ble_eq_true rfl) ⟨Nat.zero_le _, Nat.zero_le _⟩ dX10_creaks_2 ?_
  clear hP hD hS; intro H locs hP hD hS
  refine lv_if_ne (tgt := 14) hx hb dX10_creaks_5 (by decide) (fun c_5 => ?_) (fun c_5 => ?_)
  · replace hf := it_f c_5 hf
    refine lv_aload_n hx hb dX10_creaks_14 rfl (lv_at hl 0 rfl) ?_
    refine lv_aload_n hx hb dX10_creaks_15 rfl (lv_at hl 0 rfl) ?_
    refine r_get C hP 0 rfl fl_X10_32 rfl dX10_creaks_16 ?_
    refine r_get C hP 2 rfl fl_X10_225 rfl dX10_creaks_19 ?_
    refine lv_iload_n hx hb dX10_creaks_22 rfl (lv_at hl 1 rfl) ?_
    obtain ⟨hi_23, hf⟩ := gd_s hf
    refine r_lald C hP 3 rfl hi_23 dX10_creaks_23 ?_
    obtain ⟨r_24, hc_24, hf⟩ := bd1 hf
    refine r_callSi (ws' := (wX10_creaks E h h_reader h_inn h_chosen h_night h_marks h_notes h_casts h_inn_house h_inn_thingIn h_inn_full h_inn_states h_inn_bed h_inn_dreamOf h_inn_listensIn h_night_ways h_night_how h_night_passed h_night_dreamOf h_night_stateOf h_night_roomOf h_night_handOf h_night_awake h_night_thingIn h_night_full h_night_heardBy v_marked v_refusal v_latestFault v_faultPlace v_inn_minutes v_inn_things v_inn_dreams v_inn_sleepers v_inn_listeners v_night_setting v_night_been v_night_heardBy)) (As := [.long (v_night_heardBy p0.toNatClampNeg)]) (rest := [.ref h]) C (ctJ13_bitCount_95d88 l E N (v_night_heardBy p0.toNatClampNeg) r_24 hc_24) ml_X10_233 ⟨Nat.le_of_ble_eq_true rfl, Nat.le_of_ble_eq_true rfl⟩ hP hD hS [] rfl rfl rfl rfl rfl hl.1 rfl (Nat.le_of_ble_eq_true rfl) ⟨Nat.zero_le _, Nat.zero_le _⟩ dX10_creaks_24 ?_
    clear hP hD hS; intro H locs hP hD hS
    obtain ⟨r_27, v_refusal_27, hc_27, hf⟩ := bd2 hf
    refine r_callVi (ws' := (wX10_creaks E h h_reader h_inn h_chosen h_night h_marks h_notes h_casts h_inn_house h_inn_thingIn h_inn_full h_inn_states h_inn_bed h_inn_dreamOf h_inn_listensIn h_night_ways h_night_how h_night_passed h_night_dreamOf h_night_stateOf h_night_roomOf h_night_handOf h_night_awake h_night_thingIn h_night_full h_night_heardBy v_marked v_refusal_27 v_latestFault v_faultPlace v_inn_minutes v_inn_things v_inn_dreams v_inn_sleepers v_inn_listeners v_night_setting v_night_been v_night_heardBy)) (As := [.int r_24]) (rest := []) C (ctX10_answer l E h h_reader h_inn h_chosen h_night h_marks h_notes h_casts v_marked v_refusal v_latestFault v_faultPlace N r_24 r_27 v_refusal_27 hc_27) ml_X10_95 ⟨Nat.le_of_ble_eq_true rfl, Nat.le_of_ble_eq_true rfl⟩ hP hD hS 0 rfl rfl rfl [0] rfl rfl rfl rfl rfl hl.1 rfl (Nat.le_of_ble_eq_true rfl) ⟨Nat.zero_le _, Nat.zero_le _⟩ dX10_creaks_27 ?_
    clear hP hD hS; intro H locs hP hD hS
    cases hf
    rw [hQ]
    exact r_iret C hr hP hD hS rfl dX10_creaks_30
  · replace hf := it_t c_5 hf
    refine lv_aload_n hx hb dX10_creaks_8 rfl (lv_at hl 0 rfl) ?_
    refine lv_iconst (v := 1) hx hb dX10_creaks_9 (by decide) ?_
    obtain ⟨r_10, v_refusal_10, hc_10, hf⟩ := bd2 hf
    refine r_callVi (ws' := (wX10_creaks E h h_reader h_inn h_chosen h_night h_marks h_notes h_casts h_inn_house h_inn_thingIn h_inn_full h_inn_states h_inn_bed h_inn_dreamOf h_inn_listensIn h_night_ways h_night_how h_night_passed h_night_dreamOf h_night_stateOf h_night_roomOf h_night_handOf h_night_awake h_night_thingIn h_night_full h_night_heardBy v_marked v_refusal_10 v_latestFault v_faultPlace v_inn_minutes v_inn_things v_inn_dreams v_inn_sleepers v_inn_listeners v_night_setting v_night_been v_night_heardBy)) (As := [.int 1]) (rest := []) C (ctX10_refuse l E h h_reader h_inn h_chosen h_night h_marks h_notes h_casts v_marked v_refusal v_latestFault v_faultPlace N 1 r_10 v_refusal_10 hc_10) ml_X10_68 ⟨Nat.le_of_ble_eq_true rfl, Nat.le_of_ble_eq_true rfl⟩ hP hD hS 0 rfl rfl rfl [0] rfl rfl rfl rfl rfl hl.1 rfl (Nat.le_of_ble_eq_true rfl) ⟨Nat.zero_le _, Nat.zero_le _⟩ dX10_creaks_10 ?_
    clear hP hD hS; intro H locs hP hD hS
    cases hf
    rw [hQ]
    exact r_iret C hr hP hD hS rfl dX10_creaks_13
def wX10_called (E : EN) (h h_reader h_inn h_chosen h_night h_marks h_notes h_casts h_inn_house h_inn_thingIn h_inn_full h_inn_states h_inn_bed h_inn_dreamOf h_inn_listensIn h_inn_house_creak h_inn_house_cold h_inn_house_one h_inn_house_other h_inn_house_how h_inn_house_falls h_inn_house_ways h_casts_trial h_casts_dreams h_casts_plain h_casts_set h_casts_tried h_casts_kin h_casts_fitters h_casts_trial_ways h_casts_trial_how h_casts_trial_passed h_casts_trial_dreamOf h_casts_trial_stateOf h_casts_trial_roomOf h_casts_trial_handOf h_casts_trial_awake h_casts_trial_thingIn h_casts_trial_full h_casts_trial_heardBy h_casts_trial_ways_steps h_inn_house_ways_steps : Nat) (v_marked : Int32) (v_refusal : Int32) (v_latestFault : Int32) (v_faultPlace : Int32) (v_inn_minutes : Int32) (v_inn_things : Int32) (v_inn_dreams : Int32) (v_inn_sleepers : Int32) (v_inn_listeners : Int32) (v_inn_house_rooms : Int32) (v_inn_house_doors : Int32) (v_casts_count : Int32) (v_casts_fitting : Int32) (v_casts_trial_setting : Int32) (v_casts_trial_been : Int32) (v_inn_house_how : Nat → Int32) (v_casts_trial_ways_rooms : Int32) (v_casts_trial_ways_steps : Nat → Int32) (v_inn_house_one : Nat → Int32) (v_inn_house_other : Nat → Int32) (v_inn_thingIn : Nat → Int32) (v_casts_trial_thingIn : Nat → Int32) (v_inn_full : Nat → Int32) (v_casts_trial_full : Nat → Int32) (v_casts_trial_heardBy : Nat → Int64) (v_chosen : Nat → Int32) (v_casts_trial_dreamOf : Nat → Int32) (v_casts_trial_stateOf : Nat → Int32) (v_inn_bed : Nat → Int32) (v_casts_trial_roomOf : Nat → Int32) (v_casts_trial_handOf : Nat → Int32) (v_casts_trial_awake : Nat → Int32) (v_casts_trial_how : Nat → Int32) (v_casts_trial_passed : Nat → Int32) (v_inn_states : Nat → Int32) (v_inn_house_creak : Nat → Int32) (v_inn_listensIn : Nat → Int32) (v_inn_house_ways_rooms : Int32) (v_inn_house_ways_steps : Nat → Int32) (v_inn_house_cold : Nat → Int32) (v_inn_house_falls : Nat → Int32) : va_W := [(h, .inr (9, [.ref h_reader, .ref h_inn, .ref h_chosen, .ref h_night, .ref h_marks, .int v_marked, .ref h_notes, .ref h_casts, .int v_refusal, .int v_latestFault, .int v_faultPlace])), (h_inn, .inr (2, [.ref h_inn_house, .int v_inn_minutes, .int v_inn_things, .ref h_inn_thingIn, .ref h_inn_full, .int v_inn_dreams, .ref h_inn_states, .int v_inn_sleepers, .ref h_inn_bed, .ref h_inn_dreamOf, .int v_inn_listeners, .ref h_inn_listensIn])), (h_inn_house, .inr (1, [.int v_inn_house_rooms, .ref h_inn_house_creak, .ref h_inn_house_cold, .int v_inn_house_doors, .ref h_inn_house_one, .ref h_inn_house_other, .ref h_inn_house_how, .ref h_inn_house_falls, .ref h_inn_house_ways])), (h_casts, .inr (0, [.ref h_casts_trial, .ref h_inn, .int v_casts_count, .ref h_casts_dreams, .ref h_casts_plain, .ref h_casts_set, .ref h_casts_tried, .ref h_casts_kin, .int v_casts_fitting, .ref h_casts_fitters])), (h_casts_trial, .inr (4, [.ref h_inn, .int v_casts_trial_setting, .int v_casts_trial_been, .ref h_casts_trial_ways, .ref h_casts_trial_how, .ref h_casts_trial_passed, .ref h_casts_trial_dreamOf, .ref h_casts_trial_stateOf, .ref h_casts_trial_roomOf, .ref h_casts_trial_handOf, .ref h_casts_trial_awake, .ref h_casts_trial_thingIn, .ref h_casts_trial_full, .ref h_casts_trial_heardBy])), (h_inn_house_how, aI E 10 v_inn_house_how), (h_casts_trial_ways, .inr (8, [.ref h_casts_trial_ways_steps, .int v_casts_trial_ways_rooms])), (h_casts_trial_ways_steps, aI E 64 v_casts_trial_ways_steps), (h_inn_house_one, aI E 10 v_inn_house_one), (h_inn_house_other, aI E 10 v_inn_house_other), (h_inn_thingIn, aI E 4 v_inn_thingIn), (h_casts_trial_thingIn, aI E 4 v_casts_trial_thingIn), (h_inn_full, aZ E 4 v_inn_full), (h_casts_trial_full, aZ E 4 v_casts_trial_full), (h_casts_trial_heardBy, aJ E 3 v_casts_trial_heardBy), (h_chosen, aI E 3 v_chosen), (h_casts_trial_dreamOf, aI E 3 v_casts_trial_dreamOf), (h_casts_trial_stateOf, aI E 3 v_casts_trial_stateOf), (h_inn_bed, aI E 3 v_inn_bed), (h_casts_trial_roomOf, aI E 3 v_casts_trial_roomOf), (h_casts_trial_handOf, aI E 3 v_casts_trial_handOf), (h_casts_trial_awake, aZ E 3 v_casts_trial_awake), (h_casts_trial_how, aI E 10 v_casts_trial_how), (h_casts_trial_passed, aI E 10 v_casts_trial_passed), (h_inn_states, aI E 64 v_inn_states), (h_inn_house_creak, aI E 8 v_inn_house_creak), (h_inn_listensIn, aI E 3 v_inn_listensIn), (h_inn_house_ways, .inr (8, [.ref h_inn_house_ways_steps, .int v_inn_house_ways_rooms])), (h_inn_house_ways_steps, aI E 64 v_inn_house_ways_steps), (h_inn_house_cold, aZ E 8 v_inn_house_cold), (h_inn_house_falls, aZ E 10 v_inn_house_falls)]
def fX10_called (N : Nat) (p0 : Int32) (p1 : Int32) (p2 : Int32) (v_inn_minutes : Int32) (v_inn_sleepers : Int32) (v_inn_listeners : Int32) (v_inn_house_rooms : Int32) (v_inn_house_doors : Int32) (v_casts_trial_setting : Int32) (v_casts_trial_been : Int32) (v_inn_house_how : Nat → Int32) (v_casts_trial_ways_rooms : Int32) (v_casts_trial_ways_steps : Nat → Int32) (v_inn_house_one : Nat → Int32) (v_inn_house_other : Nat → Int32) (v_inn_thingIn : Nat → Int32) (v_casts_trial_thingIn : Nat → Int32) (v_inn_full : Nat → Int32) (v_casts_trial_full : Nat → Int32) (v_casts_trial_heardBy : Nat → Int64) (v_chosen : Nat → Int32) (v_casts_trial_dreamOf : Nat → Int32) (v_casts_trial_stateOf : Nat → Int32) (v_inn_bed : Nat → Int32) (v_casts_trial_roomOf : Nat → Int32) (v_casts_trial_handOf : Nat → Int32) (v_casts_trial_awake : Nat → Int32) (v_casts_trial_how : Nat → Int32) (v_casts_trial_passed : Nat → Int32) (v_inn_states : Nat → Int32) (v_inn_house_creak : Nat → Int32) (v_inn_listensIn : Nat → Int32) (v_inn_house_ways_steps : Nat → Int32) (v_inn_house_cold : Nat → Int32) (v_inn_house_falls : Nat → Int32) : Option (Int32 × Int32 × Int32 × Int32 × Int32 × (Nat → Int32) × (Nat → Int32) × (Nat → Int32) × (Nat → Int64) × (Nat → Int32) × (Nat → Int32) × (Nat → Int32) × (Nat → Int32) × (Nat → Int32) × (Nat → Int32) × (Nat → Int32)) := (fX10_isSetting N p0 v_inn_minutes v_inn_house_doors).bind (un1 fun (r_2 : Int32) => if r_2 = 0 then ((fX10_refuse N 1).bind (un2 fun (r_18 : Int32) (v_refusal_18 : Int32) => some (r_18, v_refusal_18, v_casts_trial_setting, v_casts_trial_been, v_casts_trial_ways_rooms, v_casts_trial_ways_steps, v_casts_trial_thingIn, v_casts_trial_full, v_casts_trial_heardBy, v_casts_trial_dreamOf, v_casts_trial_stateOf, v_casts_trial_roomOf, v_casts_trial_handOf, v_casts_trial_awake, v_casts_trial_how, v_casts_trial_passed))) else ((fX10_isSleeper N p1 v_inn_sleepers).bind (un1 fun (r_10 : Int32) => if r_10 = 0 then ((fX10_refuse N 1).bind (un2 fun (r_18 : Int32) (v_refusal_18 : Int32) => some (r_18, v_refusal_18, v_casts_trial_setting, v_casts_trial_been, v_casts_trial_ways_rooms, v_casts_trial_ways_steps, v_casts_trial_thingIn, v_casts_trial_full, v_casts_trial_heardBy, v_casts_trial_dreamOf, v_casts_trial_stateOf, v_casts_trial_roomOf, v_casts_trial_handOf, v_casts_trial_awake, v_casts_trial_how, v_casts_trial_passed))) else (if p2 < 0 then ((fX10_refuse N 2).bind (un2 fun (r_39 : Int32) (v_refusal_39 : Int32) => some (r_39, v_refusal_39, v_casts_trial_setting, v_casts_trial_been, v_casts_trial_ways_rooms, v_casts_trial_ways_steps, v_casts_trial_thingIn, v_casts_trial_full, v_casts_trial_heardBy, v_casts_trial_dreamOf, v_casts_trial_stateOf, v_casts_trial_roomOf, v_casts_trial_handOf, v_casts_trial_awake, v_casts_trial_how, v_casts_trial_passed))) else (if p2 ≤ v_inn_minutes then ((fX4_prepare N p0 v_inn_house_rooms v_inn_house_doors v_inn_house_how v_casts_trial_ways_steps v_inn_house_one v_inn_house_other).bind (un3 fun (v_casts_trial_setting_59 : Int32) (v_casts_trial_ways_rooms_59 : Int32) (v_casts_trial_ways_steps_59 : Nat → Int32) => (fX4_begin N 0 v_casts_trial_setting_59 v_inn_sleepers v_inn_house_doors v_inn_thingIn v_casts_trial_thingIn v_inn_full v_casts_trial_full v_casts_trial_heardBy v_chosen v_casts_trial_dreamOf v_casts_trial_stateOf v_inn_bed v_casts_trial_roomOf v_casts_trial_handOf v_casts_trial_awake v_inn_house_how v_casts_trial_how v_casts_trial_passed).bind (un11 fun (v_casts_trial_been_69 : Int32) (v_casts_trial_thingIn_69 : Nat → Int32) (v_casts_trial_full_69 : Nat → Int32) (v_casts_trial_heardBy_69 : Nat → Int64) (v_casts_trial_dreamOf_69 : Nat → Int32) (v_casts_trial_stateOf_69 : Nat → Int32) (v_casts_trial_roomOf_69 : Nat → Int32) (v_casts_trial_handOf_69 : Nat → Int32) (v_casts_trial_awake_69 : Nat → Int32) (v_casts_trial_how_69 : Nat → Int32) (v_casts_trial_passed_69 : Nat → Int32) => (fX4_pass N p2 v_casts_trial_been_69 v_inn_sleepers v_inn_listeners v_casts_trial_awake_69 v_casts_trial_dreamOf_69 v_casts_trial_stateOf_69 v_inn_states v_casts_trial_roomOf_69 v_inn_house_doors v_inn_house_one v_inn_house_other v_casts_trial_how_69 v_casts_trial_thingIn_69 v_casts_trial_full_69 v_casts_trial_handOf_69 v_casts_trial_ways_rooms_59 v_casts_trial_ways_steps_59 v_inn_house_creak v_inn_listensIn v_inn_house_ways_steps v_casts_trial_heardBy_69 v_inn_house_cold v_inn_house_falls v_casts_trial_passed_69).bind (un11 fun (r_75 : Int32) (v_casts_trial_been_75 : Int32) (v_casts_trial_awake_75 : Nat → Int32) (v_casts_trial_stateOf_75 : Nat → Int32) (v_casts_trial_roomOf_75 : Nat → Int32) (v_casts_trial_how_75 : Nat → Int32) (v_casts_trial_thingIn_75 : Nat → Int32) (v_casts_trial_full_75 : Nat → Int32) (v_casts_trial_handOf_75 : Nat → Int32) (v_casts_trial_heardBy_75 : Nat → Int64) (v_casts_trial_passed_75 : Nat → Int32) => gd p1 3 ((fX10_answer N (v_casts_trial_roomOf_75 p1.toNatClampNeg)).bind (un2 fun (r_87 : Int32) (v_refusal_87 : Int32) => some (r_87, v_refusal_87, v_casts_trial_setting_59, v_casts_trial_been_75, v_casts_trial_ways_rooms_59, v_casts_trial_ways_steps_59, v_casts_trial_thingIn_75, v_casts_trial_full_75, v_casts_trial_heardBy_75, v_casts_trial_dreamOf_69, v_casts_trial_stateOf_75, v_casts_trial_roomOf_75, v_casts_trial_handOf_75, v_casts_trial_awake_75, v_casts_trial_how_75, v_casts_trial_passed_75))))))) else ((fX10_refuse N 2).bind (un2 fun (r_39 : Int32) (v_refusal_39 : Int32) => some (r_39, v_refusal_39, v_casts_trial_setting, v_casts_trial_been, v_casts_trial_ways_rooms, v_casts_trial_ways_steps, v_casts_trial_thingIn, v_casts_trial_full, v_casts_trial_heardBy, v_casts_trial_dreamOf, v_casts_trial_stateOf, v_casts_trial_roomOf, v_casts_trial_handOf, v_casts_trial_awake, v_casts_trial_how, v_casts_trial_passed))))))))
set_option maxHeartbeats 4000000 in
set_option maxRecDepth 100000 in
theorem ctX10_called (l : Launch) (E : EN) (h h_reader h_inn h_chosen h_night h_marks h_notes h_casts h_inn_house h_inn_thingIn h_inn_full h_inn_states h_inn_bed h_inn_dreamOf h_inn_listensIn h_inn_house_creak h_inn_house_cold h_inn_house_one h_inn_house_other h_inn_house_how h_inn_house_falls h_inn_house_ways h_casts_trial h_casts_dreams h_casts_plain h_casts_set h_casts_tried h_casts_kin h_casts_fitters h_casts_trial_ways h_casts_trial_how h_casts_trial_passed h_casts_trial_dreamOf h_casts_trial_stateOf h_casts_trial_roomOf h_casts_trial_handOf h_casts_trial_awake h_casts_trial_thingIn h_casts_trial_full h_casts_trial_heardBy h_casts_trial_ways_steps h_inn_house_ways_steps : Nat) (v_marked : Int32) (v_refusal : Int32) (v_latestFault : Int32) (v_faultPlace : Int32) (v_inn_minutes : Int32) (v_inn_things : Int32) (v_inn_dreams : Int32) (v_inn_sleepers : Int32) (v_inn_listeners : Int32) (v_inn_house_rooms : Int32) (v_inn_house_doors : Int32) (v_casts_count : Int32) (v_casts_fitting : Int32) (v_casts_trial_setting : Int32) (v_casts_trial_been : Int32) (v_inn_house_how : Nat → Int32) (v_casts_trial_ways_rooms : Int32) (v_casts_trial_ways_steps : Nat → Int32) (v_inn_house_one : Nat → Int32) (v_inn_house_other : Nat → Int32) (v_inn_thingIn : Nat → Int32) (v_casts_trial_thingIn : Nat → Int32) (v_inn_full : Nat → Int32) (v_casts_trial_full : Nat → Int32) (v_casts_trial_heardBy : Nat → Int64) (v_chosen : Nat → Int32) (v_casts_trial_dreamOf : Nat → Int32) (v_casts_trial_stateOf : Nat → Int32) (v_inn_bed : Nat → Int32) (v_casts_trial_roomOf : Nat → Int32) (v_casts_trial_handOf : Nat → Int32) (v_casts_trial_awake : Nat → Int32) (v_casts_trial_how : Nat → Int32) (v_casts_trial_passed : Nat → Int32) (v_inn_states : Nat → Int32) (v_inn_house_creak : Nat → Int32) (v_inn_listensIn : Nat → Int32) (v_inn_house_ways_rooms : Int32) (v_inn_house_ways_steps : Nat → Int32) (v_inn_house_cold : Nat → Int32) (v_inn_house_falls : Nat → Int32) (N : Nat) (p0 : Int32) (p1 : Int32) (p2 : Int32) (z0 : Int32) (z1 : Int32) (z2 : Int32) (z3 : Int32) (z4 : Int32) (z5 : Nat → Int32) (z6 : Nat → Int32) (z7 : Nat → Int32) (z8 : Nat → Int64) (z9 : Nat → Int32) (z10 : Nat → Int32) (z11 : Nat → Int32) (z12 : Nat → Int32) (z13 : Nat → Int32) (z14 : Nat → Int32) (z15 : Nat → Int32) (hf : fX10_called N p0 p1 p2 v_inn_minutes v_inn_sleepers v_inn_listeners v_inn_house_rooms v_inn_house_doors v_casts_trial_setting v_casts_trial_been v_inn_house_how v_casts_trial_ways_rooms v_casts_trial_ways_steps v_inn_house_one v_inn_house_other v_inn_thingIn v_casts_trial_thingIn v_inn_full v_casts_trial_full v_casts_trial_heardBy v_chosen v_casts_trial_dreamOf v_casts_trial_stateOf v_inn_bed v_casts_trial_roomOf v_casts_trial_handOf v_casts_trial_awake v_casts_trial_how v_casts_trial_passed v_inn_states v_inn_house_creak v_inn_listensIn v_inn_house_ways_steps v_inn_house_cold v_inn_house_falls = some (z0, z1, z2, z3, z4, z5, z6, z7, z8, z9, z10, z11, z12, z13, z14, z15)) : CTi l E yX10_called cX10_called 5 .int 5 119 [.ref h, .int p0, .int p1, .int p2] (wX10_called E h h_reader h_inn h_chosen h_night h_marks h_notes h_casts h_inn_house h_inn_thingIn h_inn_full h_inn_states h_inn_bed h_inn_dreamOf h_inn_listensIn h_inn_house_creak h_inn_house_cold h_inn_house_one h_inn_house_other h_inn_house_how h_inn_house_falls h_inn_house_ways h_casts_trial h_casts_dreams h_casts_plain h_casts_set h_casts_tried h_casts_kin h_casts_fitters h_casts_trial_ways h_casts_trial_how h_casts_trial_passed h_casts_trial_dreamOf h_casts_trial_stateOf h_casts_trial_roomOf h_casts_trial_handOf h_casts_trial_awake h_casts_trial_thingIn h_casts_trial_full h_casts_trial_heardBy h_casts_trial_ways_steps h_inn_house_ways_steps v_marked v_refusal v_latestFault v_faultPlace v_inn_minutes v_inn_things v_inn_dreams v_inn_sleepers v_inn_listeners v_inn_house_rooms v_inn_house_doors v_casts_count v_casts_fitting v_casts_trial_setting v_casts_trial_been v_inn_house_how v_casts_trial_ways_rooms v_casts_trial_ways_steps v_inn_house_one v_inn_house_other v_inn_thingIn v_casts_trial_thingIn v_inn_full v_casts_trial_full v_casts_trial_heardBy v_chosen v_casts_trial_dreamOf v_casts_trial_stateOf v_inn_bed v_casts_trial_roomOf v_casts_trial_handOf v_casts_trial_awake v_casts_trial_how v_casts_trial_passed v_inn_states v_inn_house_creak v_inn_listensIn v_inn_house_ways_rooms v_inn_house_ways_steps v_inn_house_cold v_inn_house_falls) z0 (wX10_called E h h_reader h_inn h_chosen h_night h_marks h_notes h_casts h_inn_house h_inn_thingIn h_inn_full h_inn_states h_inn_bed h_inn_dreamOf h_inn_listensIn h_inn_house_creak h_inn_house_cold h_inn_house_one h_inn_house_other h_inn_house_how h_inn_house_falls h_inn_house_ways h_casts_trial h_casts_dreams h_casts_plain h_casts_set h_casts_tried h_casts_kin h_casts_fitters h_casts_trial_ways h_casts_trial_how h_casts_trial_passed h_casts_trial_dreamOf h_casts_trial_stateOf h_casts_trial_roomOf h_casts_trial_handOf h_casts_trial_awake h_casts_trial_thingIn h_casts_trial_full h_casts_trial_heardBy h_casts_trial_ways_steps h_inn_house_ways_steps v_marked z1 v_latestFault v_faultPlace v_inn_minutes v_inn_things v_inn_dreams v_inn_sleepers v_inn_listeners v_inn_house_rooms v_inn_house_doors v_casts_count v_casts_fitting z2 z3 v_inn_house_how z4 z5 v_inn_house_one v_inn_house_other v_inn_thingIn z6 v_inn_full z7 z8 v_chosen z9 z10 v_inn_bed z11 z12 z13 z14 z15 v_inn_states v_inn_house_creak v_inn_listensIn v_inn_house_ways_rooms v_inn_house_ways_steps v_inn_house_cold v_inn_house_falls) := by
  intro sz
  refine ct_body (by decide) (Nat.le_of_ble_eq_true rfl) ?_
  intro p e s m args below meth c A ls hAe C hr hin hP hD hS hl
  have C : CX p s m args meth c cX10_called RX10 5 E A := C
  have hl : lv_has ls 5 [(0, .ref h), (1, .int p0), (2, .int p1), (3, .int p2)] := hl
  have hx := C.1
  have hb := C.2.1
  rw [hAe]
  clear hAe
  obtain ⟨Q, hQ⟩ : ∃ Q, Q = MQ below (Qi E A z0 (wX10_called E h h_reader h_inn h_chosen h_night h_marks h_notes h_casts h_inn_house h_inn_thingIn h_inn_full h_inn_states h_inn_bed h_inn_dreamOf h_inn_listensIn h_inn_house_creak h_inn_house_cold h_inn_house_one h_inn_house_other h_inn_house_how h_inn_house_falls h_inn_house_ways h_casts_trial h_casts_dreams h_casts_plain h_casts_set h_casts_tried h_casts_kin h_casts_fitters h_casts_trial_ways h_casts_trial_how h_casts_trial_passed h_casts_trial_dreamOf h_casts_trial_stateOf h_casts_trial_roomOf h_casts_trial_handOf h_casts_trial_awake h_casts_trial_thingIn h_casts_trial_full h_casts_trial_heardBy h_casts_trial_ways_steps h_inn_house_ways_steps v_marked z1 v_latestFault v_faultPlace v_inn_minutes v_inn_things v_inn_dreams v_inn_sleepers v_inn_listeners v_inn_house_rooms v_inn_house_doors v_casts_count v_casts_fitting z2 z3 v_inn_house_how z4 z5 v_inn_house_one v_inn_house_other v_inn_thingIn z6 v_inn_full z7 z8 v_chosen z9 z10 v_inn_bed z11 z12 z13 z14 z15 v_inn_states v_inn_house_creak v_inn_listensIn v_inn_house_ways_rooms v_inn_house_ways_steps v_inn_house_cold v_inn_house_falls)) args s 0 0 A := ⟨_, rfl⟩
  rw [← hQ]
  unfold fX10_called at hf
  refine lv_aload_n hx hb dX10_called_0 rfl (lv_at hl 0 rfl) ?_
  refine lv_iload_n hx hb dX10_called_1 rfl (lv_at hl 1 rfl) ?_
  obtain ⟨r_2, hc_2, hf⟩ := bd1 hf
  refine r_callVi (ws' := (wX10_called E h h_reader h_inn h_chosen h_night h_marks h_notes h_casts h_inn_house h_inn_thingIn h_inn_full h_inn_states h_inn_bed h_inn_dreamOf h_inn_listensIn h_inn_house_creak h_inn_house_cold h_inn_house_one h_inn_house_other h_inn_house_how h_inn_house_falls h_inn_house_ways h_casts_trial h_casts_dreams h_casts_plain h_casts_set h_casts_tried h_casts_kin h_casts_fitters h_casts_trial_ways h_casts_trial_how h_casts_trial_passed h_casts_trial_dreamOf h_casts_trial_stateOf h_casts_trial_roomOf h_casts_trial_handOf h_casts_trial_awake h_casts_trial_thingIn h_casts_trial_full h_casts_trial_heardBy h_casts_trial_ways_steps h_inn_house_ways_steps v_marked v_refusal v_latestFault v_faultPlace v_inn_minutes v_inn_things v_inn_dreams v_inn_sleepers v_inn_listeners v_inn_house_rooms v_inn_house_doors v_casts_count v_casts_fitting v_casts_trial_setting v_casts_trial_been v_inn_house_how v_casts_trial_ways_rooms v_casts_trial_ways_steps v_inn_house_one v_inn_house_other v_inn_thingIn v_casts_trial_thingIn v_inn_full v_casts_trial_full v_casts_trial_heardBy v_chosen v_casts_trial_dreamOf v_casts_trial_stateOf v_inn_bed v_casts_trial_roomOf v_casts_trial_handOf v_casts_trial_awake v_casts_trial_how v_casts_trial_passed v_inn_states v_inn_house_creak v_inn_listensIn v_inn_house_ways_rooms v_inn_house_ways_steps v_inn_house_cold v_inn_house_falls)) (As := [.int p0]) (rest := []) C (ctX10_isSetting l E h h_reader h_inn h_chosen h_night h_marks h_notes h_casts h_inn_house h_inn_thingIn h_inn_full h_inn_states h_inn_bed h_inn_dreamOf h_inn_listensIn h_inn_house_creak h_inn_house_cold h_inn_house_one h_inn_house_other h_inn_house_how h_inn_house_falls h_inn_house_ways v_marked v_refusal v_latestFault v_faultPlace v_inn_minutes v_inn_things v_inn_dreams v_inn_sleepers v_inn_listeners v_inn_house_rooms v_inn_house_doors N p0 r_2 hc_2) ml_X10_149 ⟨Nat.le_of_ble_eq_true rfl, Nat.le_of_ble_eq_true rfl⟩ hP hD hS 0 rfl rfl rfl [0, 1, 2] rfl rfl rfl rfl rfl hl.1 rfl (Nat.le_of_ble_eq_true rfl) ⟨Nat.zero_le _, Nat.zero_le _⟩ dX10_called_2 ?_
  clear hP hD hS; intro H locs hP hD hS
  refine lv_if_eq (tgt := 16) hx hb dX10_called_5 (by decide) (fun c_5 => ?_) (fun c_5 => ?_)
  · replace hf := it_t c_5 hf
    refine lv_aload_n hx hb dX10_called_16 rfl (lv_at hl 0 rfl) ?_
    refine lv_iconst (v := 1) hx hb dX10_called_17 (by decide) ?_
    obtain ⟨r_18, v_refusal_18, hc_18, hf⟩ := bd2 hf
    refine r_callVi (ws' := (wX10_called E h h_reader h_inn h_chosen h_night h_marks h_notes h_casts h_inn_house h_inn_thingIn h_inn_full h_inn_states h_inn_bed h_inn_dreamOf h_inn_listensIn h_inn_house_creak h_inn_house_cold h_inn_house_one h_inn_house_other h_inn_house_how h_inn_house_falls h_inn_house_ways h_casts_trial h_casts_dreams h_casts_plain h_casts_set h_casts_tried h_casts_kin h_casts_fitters h_casts_trial_ways h_casts_trial_how h_casts_trial_passed h_casts_trial_dreamOf h_casts_trial_stateOf h_casts_trial_roomOf h_casts_trial_handOf h_casts_trial_awake h_casts_trial_thingIn h_casts_trial_full h_casts_trial_heardBy h_casts_trial_ways_steps h_inn_house_ways_steps v_marked v_refusal_18 v_latestFault v_faultPlace v_inn_minutes v_inn_things v_inn_dreams v_inn_sleepers v_inn_listeners v_inn_house_rooms v_inn_house_doors v_casts_count v_casts_fitting v_casts_trial_setting v_casts_trial_been v_inn_house_how v_casts_trial_ways_rooms v_casts_trial_ways_steps v_inn_house_one v_inn_house_other v_inn_thingIn v_casts_trial_thingIn v_inn_full v_casts_trial_full v_casts_trial_heardBy v_chosen v_casts_trial_dreamOf v_casts_trial_stateOf v_inn_bed v_casts_trial_roomOf v_casts_trial_handOf v_casts_trial_awake v_casts_trial_how v_casts_trial_passed v_inn_states v_inn_house_creak v_inn_listensIn v_inn_house_ways_rooms v_inn_house_ways_steps v_inn_house_cold v_inn_house_falls)) (As := [.int 1]) (rest := []) C (ctX10_refuse l E h h_reader h_inn h_chosen h_night h_marks h_notes h_casts v_marked v_refusal v_latestFault v_faultPlace N 1 r_18 v_refusal_18 hc_18) ml_X10_68 ⟨Nat.le_of_ble_eq_true rfl, Nat.le_of_ble_eq_true rfl⟩ hP hD hS 0 rfl rfl rfl [0] rfl rfl rfl rfl rfl hl.1 rfl (Nat.le_of_ble_eq_true rfl) ⟨Nat.zero_le _, Nat.zero_le _⟩ dX10_called_18 ?_
    clear hP hD hS; intro H locs hP hD hS
    cases hf
    rw [hQ]
    exact r_iret C hr hP hD hS rfl dX10_called_21
  · replace hf := it_f c_5 hf
    refine lv_aload_n hx hb dX10_called_8 rfl (lv_at hl 0 rfl) ?_
    refine lv_iload_n hx hb dX10_called_9 rfl (lv_at hl 2 rfl) ?_
    obtain ⟨r_10, hc_10, hf⟩ := bd1 hf
    refine r_callVi (ws' := (wX10_called E h h_reader h_inn h_chosen h_night h_marks h_notes h_casts h_inn_house h_inn_thingIn h_inn_full h_inn_states h_inn_bed h_inn_dreamOf h_inn_listensIn h_inn_house_creak h_inn_house_cold h_inn_house_one h_inn_house_other h_inn_house_how h_inn_house_falls h_inn_house_ways h_casts_trial h_casts_dreams h_casts_plain h_casts_set h_casts_tried h_casts_kin h_casts_fitters h_casts_trial_ways h_casts_trial_how h_casts_trial_passed h_casts_trial_dreamOf h_casts_trial_stateOf h_casts_trial_roomOf h_casts_trial_handOf h_casts_trial_awake h_casts_trial_thingIn h_casts_trial_full h_casts_trial_heardBy h_casts_trial_ways_steps h_inn_house_ways_steps v_marked v_refusal v_latestFault v_faultPlace v_inn_minutes v_inn_things v_inn_dreams v_inn_sleepers v_inn_listeners v_inn_house_rooms v_inn_house_doors v_casts_count v_casts_fitting v_casts_trial_setting v_casts_trial_been v_inn_house_how v_casts_trial_ways_rooms v_casts_trial_ways_steps v_inn_house_one v_inn_house_other v_inn_thingIn v_casts_trial_thingIn v_inn_full v_casts_trial_full v_casts_trial_heardBy v_chosen v_casts_trial_dreamOf v_casts_trial_stateOf v_inn_bed v_casts_trial_roomOf v_casts_trial_handOf v_casts_trial_awake v_casts_trial_how v_casts_trial_passed v_inn_states v_inn_house_creak v_inn_listensIn v_inn_house_ways_rooms v_inn_house_ways_steps v_inn_house_cold v_inn_house_falls)) (As := [.int p1]) (rest := []) C (ctX10_isSleeper l E h h_reader h_inn h_chosen h_night h_marks h_notes h_casts h_inn_house h_inn_thingIn h_inn_full h_inn_states h_inn_bed h_inn_dreamOf h_inn_listensIn v_marked v_refusal v_latestFault v_faultPlace v_inn_minutes v_inn_things v_inn_dreams v_inn_sleepers v_inn_listeners N p1 r_10 hc_10) ml_X10_167 ⟨Nat.le_of_ble_eq_true rfl, Nat.le_of_ble_eq_true rfl⟩ hP hD hS 0 rfl rfl rfl [0, 1] rfl rfl rfl rfl rfl hl.1 rfl (Nat.le_of_ble_eq_true rfl) ⟨Nat.zero_le _, Nat.zero_le _⟩ dX10_called_10 ?_
    clear hP hD hS; intro H locs hP hD hS
    refine lv_if_ne (tgt := 22) hx hb dX10_called_13 (by decide) (fun c_13 => ?_) (fun c_13 => ?_)
    · replace hf := it_f c_13 hf
      refine lv_iload_n hx hb dX10_called_22 rfl (lv_at hl 3 rfl) ?_
      refine lv_if_lt (tgt := 37) hx hb dX10_called_23 (by decide) (fun c_23 => ?_) (fun c_23 => ?_)
      · replace hf := it_t c_23 hf
        refine lv_aload_n hx hb dX10_called_37 rfl (lv_at hl 0 rfl) ?_
        refine lv_iconst (v := 2) hx hb dX10_called_38 (by decide) ?_
        obtain ⟨r_39, v_refusal_39, hc_39, hf⟩ := bd2 hf
        refine r_callVi (ws' := (wX10_called E h h_reader h_inn h_chosen h_night h_marks h_notes h_casts h_inn_house h_inn_thingIn h_inn_full h_inn_states h_inn_bed h_inn_dreamOf h_inn_listensIn h_inn_house_creak h_inn_house_cold h_inn_house_one h_inn_house_other h_inn_house_how h_inn_house_falls h_inn_house_ways h_casts_trial h_casts_dreams h_casts_plain h_casts_set h_casts_tried h_casts_kin h_casts_fitters h_casts_trial_ways h_casts_trial_how h_casts_trial_passed h_casts_trial_dreamOf h_casts_trial_stateOf h_casts_trial_roomOf h_casts_trial_handOf h_casts_trial_awake h_casts_trial_thingIn h_casts_trial_full h_casts_trial_heardBy h_casts_trial_ways_steps h_inn_house_ways_steps v_marked v_refusal_39 v_latestFault v_faultPlace v_inn_minutes v_inn_things v_inn_dreams v_inn_sleepers v_inn_listeners v_inn_house_rooms v_inn_house_doors v_casts_count v_casts_fitting v_casts_trial_setting v_casts_trial_been v_inn_house_how v_casts_trial_ways_rooms v_casts_trial_ways_steps v_inn_house_one v_inn_house_other v_inn_thingIn v_casts_trial_thingIn v_inn_full v_casts_trial_full v_casts_trial_heardBy v_chosen v_casts_trial_dreamOf v_casts_trial_stateOf v_inn_bed v_casts_trial_roomOf v_casts_trial_handOf v_casts_trial_awake v_casts_trial_how v_casts_trial_passed v_inn_states v_inn_house_creak v_inn_listensIn v_inn_house_ways_rooms v_inn_house_ways_steps v_inn_house_cold v_inn_house_falls)) (As := [.int 2]) (rest := []) C (ctX10_refuse l E h h_reader h_inn h_chosen h_night h_marks h_notes h_casts v_marked v_refusal v_latestFault v_faultPlace N 2 r_39 v_refusal_39 hc_39) ml_X10_68 ⟨Nat.le_of_ble_eq_true rfl, Nat.le_of_ble_eq_true rfl⟩ hP hD hS 0 rfl rfl rfl [0] rfl rfl rfl rfl rfl hl.1 rfl (Nat.le_of_ble_eq_true rfl) ⟨Nat.zero_le _, Nat.zero_le _⟩ dX10_called_39 ?_
        clear hP hD hS; intro H locs hP hD hS
        cases hf
        rw [hQ]
        exact r_iret C hr hP hD hS rfl dX10_called_42
      · replace hf := it_f c_23 hf
        refine lv_iload_n hx hb dX10_called_26 rfl (lv_at hl 3 rfl) ?_
        refine lv_aload_n hx hb dX10_called_27 rfl (lv_at hl 0 rfl) ?_
        refine r_get C hP 0 rfl fl_X10_19 rfl dX10_called_28 ?_
        refine r_get C hP 1 rfl fl_X10_172 rfl dX10_called_31 ?_
        refine lv_icmp_le (tgt := 43) hx hb dX10_called_34 (by decide) (fun c_34 => ?_) (fun c_34 => ?_)
        · replace hf := it_t c_34 hf
          refine lv_aload_n hx hb dX10_called_43 rfl (lv_at hl 0 rfl) ?_
          refine r_get C hP 0 rfl fl_X10_50 rfl dX10_called_44 ?_
          refine r_get C hP 3 rfl fl_X10_239 rfl dX10_called_47 ?_
          refine lv_astore (lv' := [(4, .ref h_casts_trial), (0, .ref h), (1, .int p0), (2, .int p1), (3, .int p2)]) hx hb dX10_called_50 hl (by decide) rfl (fun ls hl => ?_)
          refine lv_aload hx hb dX10_called_52 (lv_at hl 0 rfl) ?_
          refine lv_aload_n hx hb dX10_called_54 rfl (lv_at hl 1 rfl) ?_
          refine r_get C hP 0 rfl fl_X10_19 rfl dX10_called_55 ?_
          refine lv_iload_n hx hb dX10_called_58 rfl (lv_at hl 2 rfl) ?_
          obtain ⟨v_casts_trial_setting_59, v_casts_trial_ways_rooms_59, v_casts_trial_ways_steps_59, hc_59, hf⟩ := bd3 hf
          refine r_callVv (ws' := (wX10_called E h h_reader h_inn h_chosen h_night h_marks h_notes h_casts h_inn_house h_inn_thingIn h_inn_full h_inn_states h_inn_bed h_inn_dreamOf h_inn_listensIn h_inn_house_creak h_inn_house_cold h_inn_house_one h_inn_house_other h_inn_house_how h_inn_house_falls h_inn_house_ways h_casts_trial h_casts_dreams h_casts_plain h_casts_set h_casts_tried h_casts_kin h_casts_fitters h_casts_trial_ways h_casts_trial_how h_casts_trial_passed h_casts_trial_dreamOf h_casts_trial_stateOf h_casts_trial_roomOf h_casts_trial_handOf h_casts_trial_awake h_casts_trial_thingIn h_casts_trial_full h_casts_trial_heardBy h_casts_trial_ways_steps h_inn_house_ways_steps v_marked v_refusal v_latestFault v_faultPlace v_inn_minutes v_inn_things v_inn_dreams v_inn_sleepers v_inn_listeners v_inn_house_rooms v_inn_house_doors v_casts_count v_casts_fitting v_casts_trial_setting_59 v_casts_trial_been v_inn_house_how v_casts_trial_ways_rooms_59 v_casts_trial_ways_steps_59 v_inn_house_one v_inn_house_other v_inn_thingIn v_casts_trial_thingIn v_inn_full v_casts_trial_full v_casts_trial_heardBy v_chosen v_casts_trial_dreamOf v_casts_trial_stateOf v_inn_bed v_casts_trial_roomOf v_casts_trial_handOf v_casts_trial_awake v_casts_trial_how v_casts_trial_passed v_inn_states v_inn_house_creak v_inn_listensIn v_inn_house_ways_rooms v_inn_house_ways_steps v_inn_house_cold v_inn_house_falls)) (As := [.ref h_inn, .int p0]) (rest := []) C (ctX4_prepare l E h_casts_trial h_casts_trial_ways h_casts_trial_how h_casts_trial_passed h_casts_trial_dreamOf h_casts_trial_stateOf h_casts_trial_roomOf h_casts_trial_handOf h_casts_trial_awake h_casts_trial_thingIn h_casts_trial_full h_casts_trial_heardBy h_inn h_inn_house h_inn_thingIn h_inn_full h_inn_states h_inn_bed h_inn_dreamOf h_inn_listensIn h_inn_house_creak h_inn_house_cold h_inn_house_one h_inn_house_other h_inn_house_how h_inn_house_falls h_inn_house_ways h_casts_trial_ways_steps (some h_inn) v_casts_trial_setting v_casts_trial_been v_inn_minutes v_inn_things v_inn_dreams v_inn_sleepers v_inn_listeners v_inn_house_rooms v_inn_house_doors v_inn_house_how v_casts_trial_ways_rooms v_casts_trial_ways_steps v_inn_house_one v_inn_house_other N p0 v_casts_trial_setting_59 v_casts_trial_ways_rooms_59 v_casts_trial_ways_steps_59 hc_59) ml_X10_155 ⟨Nat.le_of_ble_eq_true rfl, Nat.le_of_ble_eq_true rfl⟩ hP hD hS 4 rfl rfl rfl [4, 1, 2, 5, 6, 7, 8, 9] rfl rfl rfl rfl rfl hl.1 rfl (Nat.le_of_ble_eq_true rfl) ⟨Nat.zero_le _, Nat.zero_le _⟩ dX10_called_59 ?_
          clear hP hD hS; intro H locs hP hD hS
          refine lv_aload hx hb dX10_called_62 (lv_at hl 0 rfl) ?_
          refine lv_aload_n hx hb dX10_called_64 rfl (lv_at hl 1 rfl) ?_
          refine r_get C hP 0 rfl fl_X10_23 rfl dX10_called_65 ?_
          refine lv_iconst (v := 0) hx hb dX10_called_68 (by decide) ?_
          obtain ⟨v_casts_trial_been_69, v_casts_trial_thingIn_69, v_casts_trial_full_69, v_casts_trial_heardBy_69, v_casts_trial_dreamOf_69, v_casts_trial_stateOf_69, v_casts_trial_roomOf_69, v_casts_trial_handOf_69, v_casts_trial_awake_69, v_casts_trial_how_69, v_casts_trial_passed_69, hc_69, hf⟩ := bd11 hf
          refine r_callVv (ws' := (wX10_called E h h_reader h_inn h_chosen h_night h_marks h_notes h_casts h_inn_house h_inn_thingIn h_inn_full h_inn_states h_inn_bed h_inn_dreamOf h_inn_listensIn h_inn_house_creak h_inn_house_cold h_inn_house_one h_inn_house_other h_inn_house_how h_inn_house_falls h_inn_house_ways h_casts_trial h_casts_dreams h_casts_plain h_casts_set h_casts_tried h_casts_kin h_casts_fitters h_casts_trial_ways h_casts_trial_how h_casts_trial_passed h_casts_trial_dreamOf h_casts_trial_stateOf h_casts_trial_roomOf h_casts_trial_handOf h_casts_trial_awake h_casts_trial_thingIn h_casts_trial_full h_casts_trial_heardBy h_casts_trial_ways_steps h_inn_house_ways_steps v_marked v_refusal v_latestFault v_faultPlace v_inn_minutes v_inn_things v_inn_dreams v_inn_sleepers v_inn_listeners v_inn_house_rooms v_inn_house_doors v_casts_count v_casts_fitting v_casts_trial_setting_59 v_casts_trial_been_69 v_inn_house_how v_casts_trial_ways_rooms_59 v_casts_trial_ways_steps_59 v_inn_house_one v_inn_house_other v_inn_thingIn v_casts_trial_thingIn_69 v_inn_full v_casts_trial_full_69 v_casts_trial_heardBy_69 v_chosen v_casts_trial_dreamOf_69 v_casts_trial_stateOf_69 v_inn_bed v_casts_trial_roomOf_69 v_casts_trial_handOf_69 v_casts_trial_awake_69 v_casts_trial_how_69 v_casts_trial_passed_69 v_inn_states v_inn_house_creak v_inn_listensIn v_inn_house_ways_rooms v_inn_house_ways_steps v_inn_house_cold v_inn_house_falls)) (As := [.ref h_chosen, .int 0]) (rest := []) C (ctX4_begin l E h_casts_trial h_inn h_casts_trial_ways h_casts_trial_how h_casts_trial_passed h_casts_trial_dreamOf h_casts_trial_stateOf h_casts_trial_roomOf h_casts_trial_handOf h_casts_trial_awake h_casts_trial_thingIn h_casts_trial_full h_casts_trial_heardBy h_inn_house h_inn_thingIn h_inn_full h_inn_states h_inn_bed h_inn_dreamOf h_inn_listensIn h_inn_house_creak h_inn_house_cold h_inn_house_one h_inn_house_other h_inn_house_how h_inn_house_falls h_inn_house_ways h_chosen v_casts_trial_setting_59 v_casts_trial_been v_inn_minutes v_inn_things v_inn_dreams v_inn_sleepers v_inn_listeners v_inn_house_rooms v_inn_house_doors v_inn_thingIn v_casts_trial_thingIn v_inn_full v_casts_trial_full v_casts_trial_heardBy v_chosen v_casts_trial_dreamOf v_casts_trial_stateOf v_inn_bed v_casts_trial_roomOf v_casts_trial_handOf v_casts_trial_awake v_inn_house_how v_casts_trial_how v_casts_trial_passed N 0 v_casts_trial_been_69 v_casts_trial_thingIn_69 v_casts_trial_full_69 v_casts_trial_heardBy_69 v_casts_trial_dreamOf_69 v_casts_trial_stateOf_69 v_casts_trial_roomOf_69 v_casts_trial_handOf_69 v_casts_trial_awake_69 v_casts_trial_how_69 v_casts_trial_passed_69 hc_69) ml_X10_159 ⟨Nat.le_of_ble_eq_true rfl, Nat.le_of_ble_eq_true rfl⟩ hP hD hS 4 rfl rfl rfl [4, 1, 2, 10, 11, 12, 13, 14, 15, 16, 17, 18, 19, 20, 21, 5, 22, 23] rfl rfl rfl rfl rfl hl.1 rfl (Nat.le_of_ble_eq_true rfl) ⟨Nat.zero_le _, Nat.zero_le _⟩ dX10_called_69 ?_
          clear hP hD hS; intro H locs hP hD hS
          refine lv_aload hx hb dX10_called_72 (lv_at hl 0 rfl) ?_
          refine lv_iload_n hx hb dX10_called_74 rfl (lv_at hl 4 rfl) ?_
          obtain ⟨r_75, v_casts_trial_been_75, v_casts_trial_awake_75, v_casts_trial_stateOf_75, v_casts_trial_roomOf_75, v_casts_trial_how_75, v_casts_trial_thingIn_75, v_casts_trial_full_75, v_casts_trial_handOf_75, v_casts_trial_heardBy_75, v_casts_trial_passed_75, hc_75, hf⟩ := bd11 hf
          refine r_callVi (ws' := (wX10_called E h h_reader h_inn h_chosen h_night h_marks h_notes h_casts h_inn_house h_inn_thingIn h_inn_full h_inn_states h_inn_bed h_inn_dreamOf h_inn_listensIn h_inn_house_creak h_inn_house_cold h_inn_house_one h_inn_house_other h_inn_house_how h_inn_house_falls h_inn_house_ways h_casts_trial h_casts_dreams h_casts_plain h_casts_set h_casts_tried h_casts_kin h_casts_fitters h_casts_trial_ways h_casts_trial_how h_casts_trial_passed h_casts_trial_dreamOf h_casts_trial_stateOf h_casts_trial_roomOf h_casts_trial_handOf h_casts_trial_awake h_casts_trial_thingIn h_casts_trial_full h_casts_trial_heardBy h_casts_trial_ways_steps h_inn_house_ways_steps v_marked v_refusal v_latestFault v_faultPlace v_inn_minutes v_inn_things v_inn_dreams v_inn_sleepers v_inn_listeners v_inn_house_rooms v_inn_house_doors v_casts_count v_casts_fitting v_casts_trial_setting_59 v_casts_trial_been_75 v_inn_house_how v_casts_trial_ways_rooms_59 v_casts_trial_ways_steps_59 v_inn_house_one v_inn_house_other v_inn_thingIn v_casts_trial_thingIn_75 v_inn_full v_casts_trial_full_75 v_casts_trial_heardBy_75 v_chosen v_casts_trial_dreamOf_69 v_casts_trial_stateOf_75 v_inn_bed v_casts_trial_roomOf_75 v_casts_trial_handOf_75 v_casts_trial_awake_75 v_casts_trial_how_75 v_casts_trial_passed_75 v_inn_states v_inn_house_creak v_inn_listensIn v_inn_house_ways_rooms v_inn_house_ways_steps v_inn_house_cold v_inn_house_falls)) (As := [.int p2]) (rest := []) C (ctX4_pass l E h_casts_trial h_inn h_casts_trial_ways h_casts_trial_how h_casts_trial_passed h_casts_trial_dreamOf h_casts_trial_stateOf h_casts_trial_roomOf h_casts_trial_handOf h_casts_trial_awake h_casts_trial_thingIn h_casts_trial_full h_casts_trial_heardBy h_inn_house h_inn_thingIn h_inn_full h_inn_states h_inn_bed h_inn_dreamOf h_inn_listensIn h_inn_house_creak h_inn_house_cold h_inn_house_one h_inn_house_other h_inn_house_how h_inn_house_falls h_inn_house_ways h_casts_trial_ways_steps h_inn_house_ways_steps v_casts_trial_setting_59 v_casts_trial_been_69 v_inn_minutes v_inn_things v_inn_dreams v_inn_sleepers v_inn_listeners v_casts_trial_awake_69 v_casts_trial_dreamOf_69 v_casts_trial_stateOf_69 v_inn_states v_casts_trial_roomOf_69 v_inn_house_rooms v_inn_house_doors v_inn_house_one v_inn_house_other v_casts_trial_how_69 v_casts_trial_thingIn_69 v_casts_trial_full_69 v_casts_trial_handOf_69 v_casts_trial_ways_rooms_59 v_casts_trial_ways_steps_59 v_inn_house_creak v_inn_listensIn v_inn_house_ways_rooms v_inn_house_ways_steps v_casts_trial_heardBy_69 v_inn_house_cold v_inn_house_falls v_casts_trial_passed_69 N p2 r_75 v_casts_trial_been_75 v_casts_trial_awake_75 v_casts_trial_stateOf_75 v_casts_trial_roomOf_75 v_casts_trial_how_75 v_casts_trial_thingIn_75 v_casts_trial_full_75 v_casts_trial_handOf_75 v_casts_trial_heardBy_75 v_casts_trial_passed_75 hc_75) ml_X10_183 ⟨Nat.le_of_ble_eq_true rfl, Nat.le_of_ble_eq_true rfl⟩ hP hD hS 4 rfl rfl rfl [4, 1, 21, 16, 17, 24, 19, 2, 8, 9, 22, 11, 13, 20, 6, 7, 25, 26, 27, 28, 14, 29, 30, 23] rfl rfl rfl rfl rfl hl.1 rfl (Nat.le_of_ble_eq_true rfl) ⟨Nat.zero_le _, Nat.zero_le _⟩ dX10_called_75 ?_
          clear hP hD hS; intro H locs hP hD hS
          refine lv_pop hx hb dX10_called_78 rfl ?_
          refine lv_aload_n hx hb dX10_called_79 rfl (lv_at hl 1 rfl) ?_
          refine lv_aload hx hb dX10_called_80 (lv_at hl 0 rfl) ?_
          refine r_get C hP 4 rfl fl_X10_186 rfl dX10_called_82 ?_
          refine lv_iload_n hx hb dX10_called_85 rfl (lv_at hl 3 rfl) ?_
          obtain ⟨hi_86, hf⟩ := gd_s hf
          refine r_iald C hP 19 rfl hi_86 dX10_called_86 ?_
          obtain ⟨r_87, v_refusal_87, hc_87, hf⟩ := bd2 hf
          refine r_callVi (ws' := (wX10_called E h h_reader h_inn h_chosen h_night h_marks h_notes h_casts h_inn_house h_inn_thingIn h_inn_full h_inn_states h_inn_bed h_inn_dreamOf h_inn_listensIn h_inn_house_creak h_inn_house_cold h_inn_house_one h_inn_house_other h_inn_house_how h_inn_house_falls h_inn_house_ways h_casts_trial h_casts_dreams h_casts_plain h_casts_set h_casts_tried h_casts_kin h_casts_fitters h_casts_trial_ways h_casts_trial_how h_casts_trial_passed h_casts_trial_dreamOf h_casts_trial_stateOf h_casts_trial_roomOf h_casts_trial_handOf h_casts_trial_awake h_casts_trial_thingIn h_casts_trial_full h_casts_trial_heardBy h_casts_trial_ways_steps h_inn_house_ways_steps v_marked v_refusal_87 v_latestFault v_faultPlace v_inn_minutes v_inn_things v_inn_dreams v_inn_sleepers v_inn_listeners v_inn_house_rooms v_inn_house_doors v_casts_count v_casts_fitting v_casts_trial_setting_59 v_casts_trial_been_75 v_inn_house_how v_casts_trial_ways_rooms_59 v_casts_trial_ways_steps_59 v_inn_house_one v_inn_house_other v_inn_thingIn v_casts_trial_thingIn_75 v_inn_full v_casts_trial_full_75 v_casts_trial_heardBy_75 v_chosen v_casts_trial_dreamOf_69 v_casts_trial_stateOf_75 v_inn_bed v_casts_trial_roomOf_75 v_casts_trial_handOf_75 v_casts_trial_awake_75 v_casts_trial_how_75 v_casts_trial_passed_75 v_inn_states v_inn_house_creak v_inn_listensIn v_inn_house_ways_rooms v_inn_house_ways_steps v_inn_house_cold v_inn_house_falls)) (As := [.int (v_casts_trial_roomOf_75 p1.toNatClampNeg)]) (rest := []) C (ctX10_answer l E h h_reader h_inn h_chosen h_night h_marks h_notes h_casts v_marked v_refusal v_latestFault v_faultPlace N (v_casts_trial_roomOf_75 p1.toNatClampNeg) r_87 v_refusal_87 hc_87) ml_X10_95 ⟨Nat.le_of_ble_eq_true rfl, Nat.le_of_ble_eq_true rfl⟩ hP hD hS 0 rfl rfl rfl [0] rfl rfl rfl rfl rfl hl.1 rfl (Nat.le_of_ble_eq_true rfl) ⟨Nat.zero_le _, Nat.zero_le _⟩ dX10_called_87 ?_
          clear hP hD hS; intro H locs hP hD hS
          cases hf
          rw [hQ]
          exact r_iret C hr hP hD hS rfl dX10_called_90
        · replace hf := it_f c_34 hf
          refine lv_aload_n hx hb dX10_called_37 rfl (lv_at hl 0 rfl) ?_
          refine lv_iconst (v := 2) hx hb dX10_called_38 (by decide) ?_
          obtain ⟨r_39, v_refusal_39, hc_39, hf⟩ := bd2 hf
          refine r_callVi (ws' := (wX10_called E h h_reader h_inn h_chosen h_night h_marks h_notes h_casts h_inn_house h_inn_thingIn h_inn_full h_inn_states h_inn_bed h_inn_dreamOf h_inn_listensIn h_inn_house_creak h_inn_house_cold h_inn_house_one h_inn_house_other h_inn_house_how h_inn_house_falls h_inn_house_ways h_casts_trial h_casts_dreams h_casts_plain h_casts_set h_casts_tried h_casts_kin h_casts_fitters h_casts_trial_ways h_casts_trial_how h_casts_trial_passed h_casts_trial_dreamOf h_casts_trial_stateOf h_casts_trial_roomOf h_casts_trial_handOf h_casts_trial_awake h_casts_trial_thingIn h_casts_trial_full h_casts_trial_heardBy h_casts_trial_ways_steps h_inn_house_ways_steps v_marked v_refusal_39 v_latestFault v_faultPlace v_inn_minutes v_inn_things v_inn_dreams v_inn_sleepers v_inn_listeners v_inn_house_rooms v_inn_house_doors v_casts_count v_casts_fitting v_casts_trial_setting v_casts_trial_been v_inn_house_how v_casts_trial_ways_rooms v_casts_trial_ways_steps v_inn_house_one v_inn_house_other v_inn_thingIn v_casts_trial_thingIn v_inn_full v_casts_trial_full v_casts_trial_heardBy v_chosen v_casts_trial_dreamOf v_casts_trial_stateOf v_inn_bed v_casts_trial_roomOf v_casts_trial_handOf v_casts_trial_awake v_casts_trial_how v_casts_trial_passed v_inn_states v_inn_house_creak v_inn_listensIn v_inn_house_ways_rooms v_inn_house_ways_steps v_inn_house_cold v_inn_house_falls)) (As := [.int 2]) (rest := []) C (ctX10_refuse l E h h_reader h_inn h_chosen h_night h_marks h_notes h_casts v_marked v_refusal v_latestFault v_faultPlace N 2 r_39 v_refusal_39 hc_39) ml_X10_68 ⟨Nat.le_of_ble_eq_true rfl, Nat.le_of_ble_eq_true rfl⟩ hP hD hS 0 rfl rfl rfl [0] rfl rfl rfl rfl rfl hl.1 rfl (Nat.le_of_ble_eq_true rfl) ⟨Nat.zero_le _, Nat.zero_le _⟩ dX10_called_39 ?_
          clear hP hD hS; intro H locs hP hD hS
          cases hf
          rw [hQ]
          exact r_iret C hr hP hD hS rfl dX10_called_42
    · replace hf := it_t c_13 hf
      refine lv_aload_n hx hb dX10_called_16 rfl (lv_at hl 0 rfl) ?_
      refine lv_iconst (v := 1) hx hb dX10_called_17 (by decide) ?_
      obtain ⟨r_18, v_refusal_18, hc_18, hf⟩ := bd2 hf
      refine r_callVi (ws' := (wX10_called E h h_reader h_inn h_chosen h_night h_marks h_notes h_casts h_inn_house h_inn_thingIn h_inn_full h_inn_states h_inn_bed h_inn_dreamOf h_inn_listensIn h_inn_house_creak h_inn_house_cold h_inn_house_one h_inn_house_other h_inn_house_how h_inn_house_falls h_inn_house_ways h_casts_trial h_casts_dreams h_casts_plain h_casts_set h_casts_tried h_casts_kin h_casts_fitters h_casts_trial_ways h_casts_trial_how h_casts_trial_passed h_casts_trial_dreamOf h_casts_trial_stateOf h_casts_trial_roomOf h_casts_trial_handOf h_casts_trial_awake h_casts_trial_thingIn h_casts_trial_full h_casts_trial_heardBy h_casts_trial_ways_steps h_inn_house_ways_steps v_marked v_refusal_18 v_latestFault v_faultPlace v_inn_minutes v_inn_things v_inn_dreams v_inn_sleepers v_inn_listeners v_inn_house_rooms v_inn_house_doors v_casts_count v_casts_fitting v_casts_trial_setting v_casts_trial_been v_inn_house_how v_casts_trial_ways_rooms v_casts_trial_ways_steps v_inn_house_one v_inn_house_other v_inn_thingIn v_casts_trial_thingIn v_inn_full v_casts_trial_full v_casts_trial_heardBy v_chosen v_casts_trial_dreamOf v_casts_trial_stateOf v_inn_bed v_casts_trial_roomOf v_casts_trial_handOf v_casts_trial_awake v_casts_trial_how v_casts_trial_passed v_inn_states v_inn_house_creak v_inn_listensIn v_inn_house_ways_rooms v_inn_house_ways_steps v_inn_house_cold v_inn_house_falls)) (As := [.int 1]) (rest := []) C (ctX10_refuse l E h h_reader h_inn h_chosen h_night h_marks h_notes h_casts v_marked v_refusal v_latestFault v_faultPlace N 1 r_18 v_refusal_18 hc_18) ml_X10_68 ⟨Nat.le_of_ble_eq_true rfl, Nat.le_of_ble_eq_true rfl⟩ hP hD hS 0 rfl rfl rfl [0] rfl rfl rfl rfl rfl hl.1 rfl (Nat.le_of_ble_eq_true rfl) ⟨Nat.zero_le _, Nat.zero_le _⟩ dX10_called_18 ?_
      clear hP hD hS; intro H locs hP hD hS
      cases hf
      rw [hQ]
      exact r_iret C hr hP hD hS rfl dX10_called_21
def wX8_become (E : EN) (a0 a0_steps h h_steps : Nat) (v_a0_rooms : Int32) (v_rooms : Int32) (v_steps : Nat → Int32) (v_a0_steps : Nat → Int32) : va_W := [(a0, .inr (8, [.ref a0_steps, .int v_a0_rooms])), (h, .inr (8, [.ref h_steps, .int v_rooms])), (h_steps, aI E 64 v_steps), (a0_steps, aI E 64 v_a0_steps)]
def fX8_become (N : Nat) (v_a0_rooms : Int32) (v_steps : Nat → Int32) (v_a0_steps : Nat → Int32) : Option (Int32 × (Nat → Int32)) := cpg 0 0 64 64 64 (some (v_a0_rooms, va_cpy v_a0_steps v_steps (0 : Int32).toNatClampNeg (0 : Int32).toNatClampNeg (64 : Int32).toNatClampNeg))
set_option maxHeartbeats 4000000 in
set_option maxRecDepth 100000 in
theorem ctX8_become (l : Launch) (E : EN) (a0 a0_steps h h_steps : Nat) (v_a0_rooms : Int32) (v_rooms : Int32) (v_steps : Nat → Int32) (v_a0_steps : Nat → Int32) (N : Nat) (z0 : Int32) (z1 : Nat → Int32) (hf : fX8_become N v_a0_rooms v_steps v_a0_steps = some (z0, z1)) : CTv l E yX8_become cX8_become 2 1 26 [.ref h, .ref a0] (wX8_become E a0 a0_steps h h_steps v_a0_rooms v_rooms v_steps v_a0_steps) (wX8_become E a0 a0_steps h h_steps v_a0_rooms z0 z1 v_a0_steps) := by
  intro sz
  refine ct_body (by decide) (Nat.le_of_ble_eq_true rfl) ?_
  intro p e s m args below meth c A ls hAe C hr hin hP hD hS hl
  have C : CX p s m args meth c cX8_become RX8 2 E A := C
  have hl : lv_has ls 2 [(0, .ref h), (1, .ref a0)] := hl
  have hx := C.1
  have hb := C.2.1
  rw [hAe]
  clear hAe
  obtain ⟨Q, hQ⟩ : ∃ Q, Q = MQ below (Qv E A (wX8_become E a0 a0_steps h h_steps v_a0_rooms z0 z1 v_a0_steps)) args s 0 0 A := ⟨_, rfl⟩
  rw [← hQ]
  unfold fX8_become at hf
  refine lv_aload_n hx hb dX8_become_0 rfl (lv_at hl 0 rfl) ?_
  refine lv_aload_n hx hb dX8_become_1 rfl (lv_at hl 1 rfl) ?_
  refine r_get C hP 0 rfl fl_X8_21 rfl dX8_become_2 ?_
  refine r_put (ws' := (wX8_become E a0 a0_steps h h_steps v_a0_rooms v_a0_rooms v_steps v_a0_steps)) C hP hD hS 1 rfl fl_X8_21 rfl rfl (by decide) rfl dX8_become_5 ?_
  clear hP hD hS; intro H locs hP hD hS
  refine lv_aload_n hx hb dX8_become_8 rfl (lv_at hl 1 rfl) ?_
  refine r_get C hP 0 rfl fl_X8_9 rfl dX8_become_9 ?_
  refine lv_iconst (v := 0) hx hb dX8_become_12 (by decide) ?_
  refine lv_aload_n hx hb dX8_become_13 rfl (lv_at hl 0 rfl) ?_
  refine r_get C hP 1 rfl fl_X8_9 rfl dX8_become_14 ?_
  refine lv_iconst (v := 0) hx hb dX8_become_17 (by decide) ?_
  refine lv_aload_n hx hb dX8_become_18 rfl (lv_at hl 0 rfl) ?_
  refine r_get C hP 1 rfl fl_X8_9 rfl dX8_become_19 ?_
  refine r_alen (v := 64) C hP 2 rfl (by decide) dX8_become_22 ?_
  obtain ⟨hg_23, hf⟩ := cpg_s hf
  refine r_copyi (t0 := 0) (ws' := (wX8_become E a0 a0_steps h h_steps v_a0_rooms v_a0_rooms (va_cpy v_a0_steps v_steps (0 : Int32).toNatClampNeg (0 : Int32).toNatClampNeg (64 : Int32).toNatClampNeg) v_a0_steps)) C sc_X8_49 (Nat.le_of_ble_eq_true rfl) (Nat.le_of_ble_eq_true rfl) hP hD hS hl.1 3 2 rfl rfl rfl rfl hg_23.1 hg_23.2.1 hg_23.2.2.1 hg_23.2.2.2.1 hg_23.2.2.2.2 (fun _ _ => rfl) rfl dX8_become_23 ?_
  clear hP hD hS; intro H locs hP hD hS
  cases hf
  rw [hQ]
  exact r_vret C hr hP hD hS dX8_become_26
def wX4_become (E : EN) (a0 a0_ways a0_how a0_passed a0_dreamOf a0_stateOf a0_roomOf a0_handOf a0_awake a0_thingIn a0_full a0_heardBy h h_ways h_how h_passed h_dreamOf h_stateOf h_roomOf h_handOf h_awake h_thingIn h_full h_heardBy a0_ways_steps h_ways_steps : Nat) (v_a0_inn : Option Nat) (v_a0_setting : Int32) (v_a0_been : Int32) (v_inn : Option Nat) (v_setting : Int32) (v_been : Int32) (v_a0_ways_rooms : Int32) (v_ways_rooms : Int32) (v_ways_steps : Nat → Int32) (v_a0_ways_steps : Nat → Int32) (v_a0_how : Nat → Int32) (v_how : Nat → Int32) (v_a0_passed : Nat → Int32) (v_passed : Nat → Int32) (v_a0_dreamOf : Nat → Int32) (v_dreamOf : Nat → Int32) (v_a0_stateOf : Nat → Int32) (v_stateOf : Nat → Int32) (v_a0_roomOf : Nat → Int32) (v_roomOf : Nat → Int32) (v_a0_handOf : Nat → Int32) (v_handOf : Nat → Int32) (v_a0_awake : Nat → Int32) (v_awake : Nat → Int32) (v_a0_thingIn : Nat → Int32) (v_thingIn : Nat → Int32) (v_a0_full : Nat → Int32) (v_full : Nat → Int32) (v_a0_heardBy : Nat → Int64) (v_heardBy : Nat → Int64) : va_W := [(a0, .inr (4, [va_rf v_a0_inn, .int v_a0_setting, .int v_a0_been, .ref a0_ways, .ref a0_how, .ref a0_passed, .ref a0_dreamOf, .ref a0_stateOf, .ref a0_roomOf, .ref a0_handOf, .ref a0_awake, .ref a0_thingIn, .ref a0_full, .ref a0_heardBy])), (h, .inr (4, [va_rf v_inn, .int v_setting, .int v_been, .ref h_ways, .ref h_how, .ref h_passed, .ref h_dreamOf, .ref h_stateOf, .ref h_roomOf, .ref h_handOf, .ref h_awake, .ref h_thingIn, .ref h_full, .ref h_heardBy])), (a0_ways, .inr (8, [.ref a0_ways_steps, .int v_a0_ways_rooms])), (h_ways, .inr (8, [.ref h_ways_steps, .int v_ways_rooms])), (h_ways_steps, aI E 64 v_ways_steps), (a0_ways_steps, aI E 64 v_a0_ways_steps), (a0_how, aI E 10 v_a0_how), (h_how, aI E 10 v_how), (a0_passed, aI E 10 v_a0_passed), (h_passed, aI E 10 v_passed), (a0_dreamOf, aI E 3 v_a0_dreamOf), (h_dreamOf, aI E 3 v_dreamOf), (a0_stateOf, aI E 3 v_a0_stateOf), (h_stateOf, aI E 3 v_stateOf), (a0_roomOf, aI E 3 v_a0_roomOf), (h_roomOf, aI E 3 v_roomOf), (a0_handOf, aI E 3 v_a0_handOf), (h_handOf, aI E 3 v_handOf), (a0_awake, aZ E 3 v_a0_awake), (h_awake, aZ E 3 v_awake), (a0_thingIn, aI E 4 v_a0_thingIn), (h_thingIn, aI E 4 v_thingIn), (a0_full, aZ E 4 v_a0_full), (h_full, aZ E 4 v_full), (a0_heardBy, aJ E 3 v_a0_heardBy), (h_heardBy, aJ E 3 v_heardBy)]
def fX4_become (N : Nat) (v_a0_inn : Option Nat) (v_a0_setting : Int32) (v_a0_been : Int32) (v_a0_ways_rooms : Int32) (v_ways_steps : Nat → Int32) (v_a0_ways_steps : Nat → Int32) (v_a0_how : Nat → Int32) (v_how : Nat → Int32) (v_a0_passed : Nat → Int32) (v_passed : Nat → Int32) (v_a0_dreamOf : Nat → Int32) (v_dreamOf : Nat → Int32) (v_a0_stateOf : Nat → Int32) (v_stateOf : Nat → Int32) (v_a0_roomOf : Nat → Int32) (v_roomOf : Nat → Int32) (v_a0_handOf : Nat → Int32) (v_handOf : Nat → Int32) (v_a0_awake : Nat → Int32) (v_awake : Nat → Int32) (v_a0_thingIn : Nat → Int32) (v_thingIn : Nat → Int32) (v_a0_full : Nat → Int32) (v_full : Nat → Int32) (v_a0_heardBy : Nat → Int64) (v_heardBy : Nat → Int64) : Option (Option Nat × Int32 × Int32 × Int32 × (Nat → Int32) × (Nat → Int32) × (Nat → Int32) × (Nat → Int32) × (Nat → Int32) × (Nat → Int32) × (Nat → Int32) × (Nat → Int32) × (Nat → Int32) × (Nat → Int32) × (Nat → Int64)) := (fX8_become N v_a0_ways_rooms v_ways_steps v_a0_ways_steps).bind (un2 fun (v_ways_rooms_32 : Int32) (v_ways_steps_32 : Nat → Int32) => cpg 0 0 10 10 10 (cpg 0 0 10 10 10 (cpg 0 0 3 3 3 (cpg 0 0 3 3 3 (cpg 0 0 3 3 3 (cpg 0 0 3 3 3 (cpg 0 0 3 3 3 (zcg v_a0_awake 0 3 (cpg 0 0 4 4 4 (cpg 0 0 4 4 4 (zcg v_a0_full 0 4 (cpg 0 0 3 3 3 (some (v_a0_inn, v_a0_setting, v_a0_been, v_ways_rooms_32, v_ways_steps_32, va_cpy v_a0_how v_how (0 : Int32).toNatClampNeg (0 : Int32).toNatClampNeg (10 : Int32).toNatClampNeg, va_cpy v_a0_passed v_passed (0 : Int32).toNatClampNeg (0 : Int32).toNatClampNeg (10 : Int32).toNatClampNeg, va_cpy v_a0_dreamOf v_dreamOf (0 : Int32).toNatClampNeg (0 : Int32).toNatClampNeg (3 : Int32).toNatClampNeg, va_cpy v_a0_stateOf v_stateOf (0 : Int32).toNatClampNeg (0 : Int32).toNatClampNeg (3 : Int32).toNatClampNeg, va_cpy v_a0_roomOf v_roomOf (0 : Int32).toNatClampNeg (0 : Int32).toNatClampNeg (3 : Int32).toNatClampNeg, va_cpy v_a0_handOf v_handOf (0 : Int32).toNatClampNeg (0 : Int32).toNatClampNeg (3 : Int32).toNatClampNeg, va_cpy v_a0_awake v_awake (0 : Int32).toNatClampNeg (0 : Int32).toNatClampNeg (3 : Int32).toNatClampNeg, va_cpy v_a0_thingIn v_thingIn (0 : Int32).toNatClampNeg (0 : Int32).toNatClampNeg (4 : Int32).toNatClampNeg, va_cpy v_a0_full v_full (0 : Int32).toNatClampNeg (0 : Int32).toNatClampNeg (4 : Int32).toNatClampNeg, va_cpy v_a0_heardBy v_heardBy (0 : Int32).toNatClampNeg (0 : Int32).toNatClampNeg (3 : Int32).toNatClampNeg))))))))))))))
set_option maxHeartbeats 4000000 in
set_option maxRecDepth 100000 in
theorem ctX4_become (l : Launch) (E : EN) (a0 a0_ways a0_how a0_passed a0_dreamOf a0_stateOf a0_roomOf a0_handOf a0_awake a0_thingIn a0_full a0_heardBy h h_ways h_how h_passed h_dreamOf h_stateOf h_roomOf h_handOf h_awake h_thingIn h_full h_heardBy a0_ways_steps h_ways_steps : Nat) (v_a0_inn : Option Nat) (v_a0_setting : Int32) (v_a0_been : Int32) (v_inn : Option Nat) (v_setting : Int32) (v_been : Int32) (v_a0_ways_rooms : Int32) (v_ways_rooms : Int32) (v_ways_steps : Nat → Int32) (v_a0_ways_steps : Nat → Int32) (v_a0_how : Nat → Int32) (v_how : Nat → Int32) (v_a0_passed : Nat → Int32) (v_passed : Nat → Int32) (v_a0_dreamOf : Nat → Int32) (v_dreamOf : Nat → Int32) (v_a0_stateOf : Nat → Int32) (v_stateOf : Nat → Int32) (v_a0_roomOf : Nat → Int32) (v_roomOf : Nat → Int32) (v_a0_handOf : Nat → Int32) (v_handOf : Nat → Int32) (v_a0_awake : Nat → Int32) (v_awake : Nat → Int32) (v_a0_thingIn : Nat → Int32) (v_thingIn : Nat → Int32) (v_a0_full : Nat → Int32) (v_full : Nat → Int32) (v_a0_heardBy : Nat → Int64) (v_heardBy : Nat → Int64) (N : Nat) (z0 : Option Nat) (z1 : Int32) (z2 : Int32) (z3 : Int32) (z4 : Nat → Int32) (z5 : Nat → Int32) (z6 : Nat → Int32) (z7 : Nat → Int32) (z8 : Nat → Int32) (z9 : Nat → Int32) (z10 : Nat → Int32) (z11 : Nat → Int32) (z12 : Nat → Int32) (z13 : Nat → Int32) (z14 : Nat → Int64) (hf : fX4_become N v_a0_inn v_a0_setting v_a0_been v_a0_ways_rooms v_ways_steps v_a0_ways_steps v_a0_how v_how v_a0_passed v_passed v_a0_dreamOf v_dreamOf v_a0_stateOf v_stateOf v_a0_roomOf v_roomOf v_a0_handOf v_handOf v_a0_awake v_awake v_a0_thingIn v_thingIn v_a0_full v_full v_a0_heardBy v_heardBy = some (z0, z1, z2, z3, z4, z5, z6, z7, z8, z9, z10, z11, z12, z13, z14)) : CTv l E yX4_become cX4_become 2 2 47 [.ref h, .ref a0] (wX4_become E a0 a0_ways a0_how a0_passed a0_dreamOf a0_stateOf a0_roomOf a0_handOf a0_awake a0_thingIn a0_full a0_heardBy h h_ways h_how h_passed h_dreamOf h_stateOf h_roomOf h_handOf h_awake h_thingIn h_full h_heardBy a0_ways_steps h_ways_steps v_a0_inn v_a0_setting v_a0_been v_inn v_setting v_been v_a0_ways_rooms v_ways_rooms v_ways_steps v_a0_ways_steps v_a0_how v_how v_a0_passed v_passed v_a0_dreamOf v_dreamOf v_a0_stateOf v_stateOf v_a0_roomOf v_roomOf v_a0_handOf v_handOf v_a0_awake v_awake v_a0_thingIn v_thingIn v_a0_full v_full v_a0_heardBy v_heardBy) (wX4_become E a0 a0_ways a0_how a0_passed a0_dreamOf a0_stateOf a0_roomOf a0_handOf a0_awake a0_thingIn a0_full a0_heardBy h h_ways h_how h_passed h_dreamOf h_stateOf h_roomOf h_handOf h_awake h_thingIn h_full h_heardBy a0_ways_steps h_ways_steps v_a0_inn v_a0_setting v_a0_been z0 z1 z2 v_a0_ways_rooms z3 z4 v_a0_ways_steps v_a0_how z5 v_a0_passed z6 v_a0_dreamOf z7 v_a0_stateOf z8 v_a0_roomOf z9 v_a0_handOf z10 v_a0_awake z11 v_a0_thingIn z12 v_a0_full z13 v_a0_heardBy z14) := by
  intro sz
  refine ct_body (by decide) (Nat.le_of_ble_eq_true rfl) ?_
  intro p e s m args below meth c A ls hAe C hr hin hP hD hS hl
  have C : CX p s m args meth c cX4_become RX4 2 E A := C
  have hl : lv_has ls 2 [(0, .ref h), (1, .ref a0)] := hl
  have hx := C.1
  have hb := C.2.1
  rw [hAe]
  clear hAe
  obtain ⟨Q, hQ⟩ : ∃ Q, Q = MQ below (Qv E A (wX4_become E a0 a0_ways a0_how a0_passed a0_dreamOf a0_stateOf a0_roomOf a0_handOf a0_awake a0_thingIn a0_full a0_heardBy h h_ways h_how h_passed h_dreamOf h_stateOf h_roomOf h_handOf h_awake h_thingIn h_full h_heardBy a0_ways_steps h_ways_steps v_a0_inn v_a0_setting v_a0_been z0 z1 z2 v_a0_ways_rooms z3 z4 v_a0_ways_steps v_a0_how z5 v_a0_passed z6 v_a0_dreamOf z7 v_a0_stateOf z8 v_a0_roomOf z9 v_a0_handOf z10 v_a0_awake z11 v_a0_thingIn z12 v_a0_full z13 v_a0_heardBy z14)) args s 0 0 A := ⟨_, rfl⟩
  rw [← hQ]
  unfold fX4_become at hf
  refine lv_aload_n hx hb dX4_become_0 rfl (lv_at hl 0 rfl) ?_
  refine lv_aload_n hx hb dX4_become_1 rfl (lv_at hl 1 rfl) ?_
  refine r_get C hP 0 rfl fl_X4_51 rfl dX4_become_2 ?_
  refine r_put (ws' := (wX4_become E a0 a0_ways a0_how a0_passed a0_dreamOf a0_stateOf a0_roomOf a0_handOf a0_awake a0_thingIn a0_full a0_heardBy h h_ways h_how h_passed h_dreamOf h_stateOf h_roomOf h_handOf h_awake h_thingIn h_full h_heardBy a0_ways_steps h_ways_steps v_a0_inn v_a0_setting v_a0_been v_a0_inn v_setting v_been v_a0_ways_rooms v_ways_rooms v_ways_steps v_a0_ways_steps v_a0_how v_how v_a0_passed v_passed v_a0_dreamOf v_dreamOf v_a0_stateOf v_stateOf v_a0_roomOf v_roomOf v_a0_handOf v_handOf v_a0_awake v_awake v_a0_thingIn v_thingIn v_a0_full v_full v_a0_heardBy v_heardBy)) C hP hD hS 1 rfl fl_X4_51 rfl rfl (by decide) rfl dX4_become_5 ?_
  clear hP hD hS; intro H locs hP hD hS
  refine lv_aload_n hx hb dX4_become_8 rfl (lv_at hl 0 rfl) ?_
  refine lv_aload_n hx hb dX4_become_9 rfl (lv_at hl 1 rfl) ?_
  refine r_get C hP 0 rfl fl_X4_55 rfl dX4_become_10 ?_
  refine r_put (ws' := (wX4_become E a0 a0_ways a0_how a0_passed a0_dreamOf a0_stateOf a0_roomOf a0_handOf a0_awake a0_thingIn a0_full a0_heardBy h h_ways h_how h_passed h_dreamOf h_stateOf h_roomOf h_handOf h_awake h_thingIn h_full h_heardBy a0_ways_steps h_ways_steps v_a0_inn v_a0_setting v_a0_been v_a0_inn v_a0_setting v_been v_a0_ways_rooms v_ways_rooms v_ways_steps v_a0_ways_steps v_a0_how v_how v_a0_passed v_passed v_a0_dreamOf v_dreamOf v_a0_stateOf v_stateOf v_a0_roomOf v_roomOf v_a0_handOf v_handOf v_a0_awake v_awake v_a0_thingIn v_thingIn v_a0_full v_full v_a0_heardBy v_heardBy)) C hP hD hS 1 rfl fl_X4_55 rfl rfl (by decide) rfl dX4_become_13 ?_
  clear hP hD hS; intro H locs hP hD hS
  refine lv_aload_n hx hb dX4_become_16 rfl (lv_at hl 0 rfl) ?_
  refine lv_aload_n hx hb dX4_become_17 rfl (lv_at hl 1 rfl) ?_
  refine r_get C hP 0 rfl fl_X4_73 rfl dX4_become_18 ?_
  refine r_put (ws' := (wX4_become E a0 a0_ways a0_how a0_passed a0_dreamOf a0_stateOf a0_roomOf a0_handOf a0_awake a0_thingIn a0_full a0_heardBy h h_ways h_how h_passed h_dreamOf h_stateOf h_roomOf h_handOf h_awake h_thingIn h_full h_heardBy a0_ways_steps h_ways_steps v_a0_inn v_a0_setting v_a0_been v_a0_inn v_a0_setting v_a0_been v_a0_ways_rooms v_ways_rooms v_ways_steps v_a0_ways_steps v_a0_how v_how v_a0_passed v_passed v_a0_dreamOf v_dreamOf v_a0_stateOf v_stateOf v_a0_roomOf v_roomOf v_a0_handOf v_handOf v_a0_awake v_awake v_a0_thingIn v_thingIn v_a0_full v_full v_a0_heardBy v_heardBy)) C hP hD hS 1 rfl fl_X4_73 rfl rfl (by decide) rfl dX4_become_21 ?_
  clear hP hD hS; intro H locs hP hD hS
  refine lv_aload_n hx hb dX4_become_24 rfl (lv_at hl 0 rfl) ?_
  refine r_get C hP 1 rfl fl_X4_12 rfl dX4_become_25 ?_
  refine lv_aload_n hx hb dX4_become_28 rfl (lv_at hl 1 rfl) ?_
  refine r_get C hP 0 rfl fl_X4_12 rfl dX4_become_29 ?_
  obtain ⟨v_ways_rooms_32, v_ways_steps_32, hc_32, hf⟩ := bd2 hf
  refine r_callVv (ws' := (wX4_become E a0 a0_ways a0_how a0_passed a0_dreamOf a0_stateOf a0_roomOf a0_handOf a0_awake a0_thingIn a0_full a0_heardBy h h_ways h_how h_passed h_dreamOf h_stateOf h_roomOf h_handOf h_awake h_thingIn h_full h_heardBy a0_ways_steps h_ways_steps v_a0_inn v_a0_setting v_a0_been v_a0_inn v_a0_setting v_a0_been v_a0_ways_rooms v_ways_rooms_32 v_ways_steps_32 v_a0_ways_steps v_a0_how v_how v_a0_passed v_passed v_a0_dreamOf v_dreamOf v_a0_stateOf v_stateOf v_a0_roomOf v_roomOf v_a0_handOf v_handOf v_a0_awake v_awake v_a0_thingIn v_thingIn v_a0_full v_full v_a0_heardBy v_heardBy)) (As := [.ref a0_ways]) (rest := []) C (ctX8_become l E a0_ways a0_ways_steps h_ways h_ways_steps v_a0_ways_rooms v_ways_rooms v_ways_steps v_a0_ways_steps N v_ways_rooms_32 v_ways_steps_32 hc_32) ml_X4_105 ⟨Nat.le_of_ble_eq_true rfl, Nat.le_of_ble_eq_true rfl⟩ hP hD hS 3 rfl rfl rfl [2, 3, 4, 5] rfl rfl rfl rfl rfl hl.1 rfl (Nat.le_of_ble_eq_true rfl) ⟨Nat.zero_le _, Nat.zero_le _⟩ dX4_become_32 ?_
  clear hP hD hS; intro H locs hP hD hS
  refine lv_aload_n hx hb dX4_become_35 rfl (lv_at hl 1 rfl) ?_
  refine r_get C hP 0 rfl fl_X4_18 rfl dX4_become_36 ?_
  refine lv_iconst (v := 0) hx hb dX4_become_39 (by decide) ?_
  refine lv_aload_n hx hb dX4_become_40 rfl (lv_at hl 0 rfl) ?_
  refine r_get C hP 1 rfl fl_X4_18 rfl dX4_become_41 ?_
  refine lv_iconst (v := 0) hx hb dX4_become_44 (by decide) ?_
  refine lv_bipush (v := 10) hx hb dX4_become_45 (by decide) ?_
  obtain ⟨hg_47, hf⟩ := cpg_s hf
  refine r_copyi (t0 := 0) (ws' := (wX4_become E a0 a0_ways a0_how a0_passed a0_dreamOf a0_stateOf a0_roomOf a0_handOf a0_awake a0_thingIn a0_full a0_heardBy h h_ways h_how h_passed h_dreamOf h_stateOf h_roomOf h_handOf h_awake h_thingIn h_full h_heardBy a0_ways_steps h_ways_steps v_a0_inn v_a0_setting v_a0_been v_a0_inn v_a0_setting v_a0_been v_a0_ways_rooms v_ways_rooms_32 v_ways_steps_32 v_a0_ways_steps v_a0_how (va_cpy v_a0_how v_how (0 : Int32).toNatClampNeg (0 : Int32).toNatClampNeg (10 : Int32).toNatClampNeg) v_a0_passed v_passed v_a0_dreamOf v_dreamOf v_a0_stateOf v_stateOf v_a0_roomOf v_roomOf v_a0_handOf v_handOf v_a0_awake v_awake v_a0_thingIn v_thingIn v_a0_full v_full v_a0_heardBy v_heardBy)) C sc_X4_92 (Nat.le_of_ble_eq_true rfl) (Nat.le_of_ble_eq_true rfl) hP hD hS hl.1 6 7 rfl rfl rfl rfl hg_47.1 hg_47.2.1 hg_47.2.2.1 hg_47.2.2.2.1 hg_47.2.2.2.2 (fun _ _ => rfl) rfl dX4_become_47 ?_
  clear hP hD hS; intro H locs hP hD hS
  refine lv_aload_n hx hb dX4_become_50 rfl (lv_at hl 1 rfl) ?_
  refine r_get C hP 0 rfl fl_X4_22 rfl dX4_become_51 ?_
  refine lv_iconst (v := 0) hx hb dX4_become_54 (by decide) ?_
  refine lv_aload_n hx hb dX4_become_55 rfl (lv_at hl 0 rfl) ?_
  refine r_get C hP 1 rfl fl_X4_22 rfl dX4_become_56 ?_
  refine lv_iconst (v := 0) hx hb dX4_become_59 (by decide) ?_
  refine lv_bipush (v := 10) hx hb dX4_become_60 (by decide) ?_
  obtain ⟨hg_62, hf⟩ := cpg_s hf
  refine r_copyi (t0 := 0) (ws' := (wX4_become E a0 a0_ways a0_how a0_passed a0_dreamOf a0_stateOf a0_roomOf a0_handOf a0_awake a0_thingIn a0_full a0_heardBy h h_ways h_how h_passed h_dreamOf h_stateOf h_roomOf h_handOf h_awake h_thingIn h_full h_heardBy a0_ways_steps h_ways_steps v_a0_inn v_a0_setting v_a0_been v_a0_inn v_a0_setting v_a0_been v_a0_ways_rooms v_ways_rooms_32 v_ways_steps_32 v_a0_ways_steps v_a0_how (va_cpy v_a0_how v_how (0 : Int32).toNatClampNeg (0 : Int32).toNatClampNeg (10 : Int32).toNatClampNeg) v_a0_passed (va_cpy v_a0_passed v_passed (0 : Int32).toNatClampNeg (0 : Int32).toNatClampNeg (10 : Int32).toNatClampNeg) v_a0_dreamOf v_dreamOf v_a0_stateOf v_stateOf v_a0_roomOf v_roomOf v_a0_handOf v_handOf v_a0_awake v_awake v_a0_thingIn v_thingIn v_a0_full v_full v_a0_heardBy v_heardBy)) C sc_X4_92 (Nat.le_of_ble_eq_true rfl) (Nat.le_of_ble_eq_true rfl) hP hD hS hl.1 8 9 rfl rfl rfl rfl hg_62.1 hg_62.2.1 hg_62.2.2.1 hg_62.2.2.2.1 hg_62.2.2.2.2 (fun _ _ => rfl) rfl dX4_become_62 ?_
  clear hP hD hS; intro H locs hP hD hS
  refine lv_aload_n hx hb dX4_become_65 rfl (lv_at hl 1 rfl) ?_
  refine r_get C hP 0 rfl fl_X4_25 rfl dX4_become_66 ?_
  refine lv_iconst (v := 0) hx hb dX4_become_69 (by decide) ?_
  refine lv_aload_n hx hb dX4_become_70 rfl (lv_at hl 0 rfl) ?_
  refine r_get C hP 1 rfl fl_X4_25 rfl dX4_become_71 ?_
  refine lv_iconst (v := 0) hx hb dX4_become_74 (by decide) ?_
  refine lv_iconst (v := 3) hx hb dX4_become_75 (by decide) ?_
  obtain ⟨hg_76, hf⟩ := cpg_s hf
  refine r_copyi (t0 := 0) (ws' := (wX4_become E a0 a0_ways a0_how a0_passed a0_dreamOf a0_stateOf a0_roomOf a0_handOf a0_awake a0_thingIn a0_full a0_heardBy h h_ways h_how h_passed h_dreamOf h_stateOf h_roomOf h_handOf h_awake h_thingIn h_full h_heardBy a0_ways_steps h_ways_steps v_a0_inn v_a0_setting v_a0_been v_a0_inn v_a0_setting v_a0_been v_a0_ways_rooms v_ways_rooms_32 v_ways_steps_32 v_a0_ways_steps v_a0_how (va_cpy v_a0_how v_how (0 : Int32).toNatClampNeg (0 : Int32).toNatClampNeg (10 : Int32).toNatClampNeg) v_a0_passed (va_cpy v_a0_passed v_passed (0 : Int32).toNatClampNeg (0 : Int32).toNatClampNeg (10 : Int32).toNatClampNeg) v_a0_dreamOf (va_cpy v_a0_dreamOf v_dreamOf (0 : Int32).toNatClampNeg (0 : Int32).toNatClampNeg (3 : Int32).toNatClampNeg) v_a0_stateOf v_stateOf v_a0_roomOf v_roomOf v_a0_handOf v_handOf v_a0_awake v_awake v_a0_thingIn v_thingIn v_a0_full v_full v_a0_heardBy v_heardBy)) C sc_X4_92 (Nat.le_of_ble_eq_true rfl) (Nat.le_of_ble_eq_true rfl) hP hD hS hl.1 10 11 rfl rfl rfl rfl hg_76.1 hg_76.2.1 hg_76.2.2.1 hg_76.2.2.2.1 hg_76.2.2.2.2 (fun _ _ => rfl) rfl dX4_become_76 ?_
  clear hP hD hS; intro H locs hP hD hS
  refine lv_aload_n hx hb dX4_become_79 rfl (lv_at hl 1 rfl) ?_
  refine r_get C hP 0 rfl fl_X4_28 rfl dX4_become_80 ?_
  refine lv_iconst (v := 0) hx hb dX4_become_83 (by decide) ?_
  refine lv_aload_n hx hb dX4_become_84 rfl (lv_at hl 0 rfl) ?_
  refine r_get C hP 1 rfl fl_X4_28 rfl dX4_become_85 ?_
  refine lv_iconst (v := 0) hx hb dX4_become_88 (by decide) ?_
  refine lv_iconst (v := 3) hx hb dX4_become_89 (by decide) ?_
  obtain ⟨hg_90, hf⟩ := cpg_s hf
  refine r_copyi (t0 := 0) (ws' := (wX4_become E a0 a0_ways a0_how a0_passed a0_dreamOf a0_stateOf a0_roomOf a0_handOf a0_awake a0_thingIn a0_full a0_heardBy h h_ways h_how h_passed h_dreamOf h_stateOf h_roomOf h_handOf h_awake h_thingIn h_full h_heardBy a0_ways_steps h_ways_steps v_a0_inn v_a0_setting v_a0_been v_a0_inn v_a0_setting v_a0_been v_a0_ways_rooms v_ways_rooms_32 v_ways_steps_32 v_a0_ways_steps v_a0_how (va_cpy v_a0_how v_how (0 : Int32).toNatClampNeg (0 : Int32).toNatClampNeg (10 : Int32).toNatClampNeg) v_a0_passed (va_cpy v_a0_passed v_passed (0 : Int32).toNatClampNeg (0 : Int32).toNatClampNeg (10 : Int32).toNatClampNeg) v_a0_dreamOf (va_cpy v_a0_dreamOf v_dreamOf (0 : Int32).toNatClampNeg (0 : Int32).toNatClampNeg (3 : Int32).toNatClampNeg) v_a0_stateOf (va_cpy v_a0_stateOf v_stateOf (0 : Int32).toNatClampNeg (0 : Int32).toNatClampNeg (3 : Int32).toNatClampNeg) v_a0_roomOf v_roomOf v_a0_handOf v_handOf v_a0_awake v_awake v_a0_thingIn v_thingIn v_a0_full v_full v_a0_heardBy v_heardBy)) C sc_X4_92 (Nat.le_of_ble_eq_true rfl) (Nat.le_of_ble_eq_true rfl) hP hD hS hl.1 12 13 rfl rfl rfl rfl hg_90.1 hg_90.2.1 hg_90.2.2.1 hg_90.2.2.2.1 hg_90.2.2.2.2 (fun _ _ => rfl) rfl dX4_become_90 ?_
  clear hP hD hS; intro H locs hP hD hS
  refine lv_aload_n hx hb dX4_become_93 rfl (lv_at hl 1 rfl) ?_
  refine r_get C hP 0 rfl fl_X4_31 rfl dX4_become_94 ?_
  refine lv_iconst (v := 0) hx hb dX4_become_97 (by decide) ?_
  refine lv_aload_n hx hb dX4_become_98 rfl (lv_at hl 0 rfl) ?_
  refine r_get C hP 1 rfl fl_X4_31 rfl dX4_become_99 ?_
  refine lv_iconst (v := 0) hx hb dX4_become_102 (by decide) ?_
  refine lv_iconst (v := 3) hx hb dX4_become_103 (by decide) ?_
  obtain ⟨hg_104, hf⟩ := cpg_s hf
  refine r_copyi (t0 := 0) (ws' := (wX4_become E a0 a0_ways a0_how a0_passed a0_dreamOf a0_stateOf a0_roomOf a0_handOf a0_awake a0_thingIn a0_full a0_heardBy h h_ways h_how h_passed h_dreamOf h_stateOf h_roomOf h_handOf h_awake h_thingIn h_full h_heardBy a0_ways_steps h_ways_steps v_a0_inn v_a0_setting v_a0_been v_a0_inn v_a0_setting v_a0_been v_a0_ways_rooms v_ways_rooms_32 v_ways_steps_32 v_a0_ways_steps v_a0_how (va_cpy v_a0_how v_how (0 : Int32).toNatClampNeg (0 : Int32).toNatClampNeg (10 : Int32).toNatClampNeg) v_a0_passed (va_cpy v_a0_passed v_passed (0 : Int32).toNatClampNeg (0 : Int32).toNatClampNeg (10 : Int32).toNatClampNeg) v_a0_dreamOf (va_cpy v_a0_dreamOf v_dreamOf (0 : Int32).toNatClampNeg (0 : Int32).toNatClampNeg (3 : Int32).toNatClampNeg) v_a0_stateOf (va_cpy v_a0_stateOf v_stateOf (0 : Int32).toNatClampNeg (0 : Int32).toNatClampNeg (3 : Int32).toNatClampNeg) v_a0_roomOf (va_cpy v_a0_roomOf v_roomOf (0 : Int32).toNatClampNeg (0 : Int32).toNatClampNeg (3 : Int32).toNatClampNeg) v_a0_handOf v_handOf v_a0_awake v_awake v_a0_thingIn v_thingIn v_a0_full v_full v_a0_heardBy v_heardBy)) C sc_X4_92 (Nat.le_of_ble_eq_true rfl) (Nat.le_of_ble_eq_true rfl) hP hD hS hl.1 14 15 rfl rfl rfl rfl hg_104.1 hg_104.2.1 hg_104.2.2.1 hg_104.2.2.2.1 hg_104.2.2.2.2 (fun _ _ => rfl) rfl dX4_become_104 ?_
  clear hP hD hS; intro H locs hP hD hS
  refine lv_aload_n hx hb dX4_become_107 rfl (lv_at hl 1 rfl) ?_
  refine r_get C hP 0 rfl fl_X4_34 rfl dX4_become_108 ?_
  refine lv_iconst (v := 0) hx hb dX4_become_111 (by decide) ?_
  refine lv_aload_n hx hb dX4_become_112 rfl (lv_at hl 0 rfl) ?_
  refine r_get C hP 1 rfl fl_X4_34 rfl dX4_become_113 ?_
  refine lv_iconst (v := 0) hx hb dX4_become_116 (by decide) ?_
  refine lv_iconst (v := 3) hx hb dX4_become_117 (by decide) ?_
  obtain ⟨hg_118, hf⟩ := cpg_s hf
  refine r_copyi (t0 := 0) (ws' := (wX4_become E a0 a0_ways a0_how a0_passed a0_dreamOf a0_stateOf a0_roomOf a0_handOf a0_awake a0_thingIn a0_full a0_heardBy h h_ways h_how h_passed h_dreamOf h_stateOf h_roomOf h_handOf h_awake h_thingIn h_full h_heardBy a0_ways_steps h_ways_steps v_a0_inn v_a0_setting v_a0_been v_a0_inn v_a0_setting v_a0_been v_a0_ways_rooms v_ways_rooms_32 v_ways_steps_32 v_a0_ways_steps v_a0_how (va_cpy v_a0_how v_how (0 : Int32).toNatClampNeg (0 : Int32).toNatClampNeg (10 : Int32).toNatClampNeg) v_a0_passed (va_cpy v_a0_passed v_passed (0 : Int32).toNatClampNeg (0 : Int32).toNatClampNeg (10 : Int32).toNatClampNeg) v_a0_dreamOf (va_cpy v_a0_dreamOf v_dreamOf (0 : Int32).toNatClampNeg (0 : Int32).toNatClampNeg (3 : Int32).toNatClampNeg) v_a0_stateOf (va_cpy v_a0_stateOf v_stateOf (0 : Int32).toNatClampNeg (0 : Int32).toNatClampNeg (3 : Int32).toNatClampNeg) v_a0_roomOf (va_cpy v_a0_roomOf v_roomOf (0 : Int32).toNatClampNeg (0 : Int32).toNatClampNeg (3 : Int32).toNatClampNeg) v_a0_handOf (va_cpy v_a0_handOf v_handOf (0 : Int32).toNatClampNeg (0 : Int32).toNatClampNeg (3 : Int32).toNatClampNeg) v_a0_awake v_awake v_a0_thingIn v_thingIn v_a0_full v_full v_a0_heardBy v_heardBy)) C sc_X4_92 (Nat.le_of_ble_eq_true rfl) (Nat.le_of_ble_eq_true rfl) hP hD hS hl.1 16 17 rfl rfl rfl rfl hg_118.1 hg_118.2.1 hg_118.2.2.1 hg_118.2.2.2.1 hg_118.2.2.2.2 (fun _ _ => rfl) rfl dX4_become_118 ?_
  clear hP hD hS; intro H locs hP hD hS
  refine lv_aload_n hx hb dX4_become_121 rfl (lv_at hl 1 rfl) ?_
  refine r_get C hP 0 rfl fl_X4_37 rfl dX4_become_122 ?_
  refine lv_iconst (v := 0) hx hb dX4_become_125 (by decide) ?_
  refine lv_aload_n hx hb dX4_become_126 rfl (lv_at hl 0 rfl) ?_
  refine r_get C hP 1 rfl fl_X4_37 rfl dX4_become_127 ?_
  refine lv_iconst (v := 0) hx hb dX4_become_130 (by decide) ?_
  refine lv_iconst (v := 3) hx hb dX4_become_131 (by decide) ?_
  obtain ⟨hg_132, hf⟩ := cpg_s hf
  obtain ⟨hz_132, hf⟩ := zcg_s hf
  refine r_copyi (t0 := 1) (ws' := (wX4_become E a0 a0_ways a0_how a0_passed a0_dreamOf a0_stateOf a0_roomOf a0_handOf a0_awake a0_thingIn a0_full a0_heardBy h h_ways h_how h_passed h_dreamOf h_stateOf h_roomOf h_handOf h_awake h_thingIn h_full h_heardBy a0_ways_steps h_ways_steps v_a0_inn v_a0_setting v_a0_been v_a0_inn v_a0_setting v_a0_been v_a0_ways_rooms v_ways_rooms_32 v_ways_steps_32 v_a0_ways_steps v_a0_how (va_cpy v_a0_how v_how (0 : Int32).toNatClampNeg (0 : Int32).toNatClampNeg (10 : Int32).toNatClampNeg) v_a0_passed (va_cpy v_a0_passed v_passed (0 : Int32).toNatClampNeg (0 : Int32).toNatClampNeg (10 : Int32).toNatClampNeg) v_a0_dreamOf (va_cpy v_a0_dreamOf v_dreamOf (0 : Int32).toNatClampNeg (0 : Int32).toNatClampNeg (3 : Int32).toNatClampNeg) v_a0_stateOf (va_cpy v_a0_stateOf v_stateOf (0 : Int32).toNatClampNeg (0 : Int32).toNatClampNeg (3 : Int32).toNatClampNeg) v_a0_roomOf (va_cpy v_a0_roomOf v_roomOf (0 : Int32).toNatClampNeg (0 : Int32).toNatClampNeg (3 : Int32).toNatClampNeg) v_a0_handOf (va_cpy v_a0_handOf v_handOf (0 : Int32).toNatClampNeg (0 : Int32).toNatClampNeg (3 : Int32).toNatClampNeg) v_a0_awake (va_cpy v_a0_awake v_awake (0 : Int32).toNatClampNeg (0 : Int32).toNatClampNeg (3 : Int32).toNatClampNeg) v_a0_thingIn v_thingIn v_a0_full v_full v_a0_heardBy v_heardBy)) C sc_X4_92 (Nat.le_of_ble_eq_true rfl) (Nat.le_of_ble_eq_true rfl) hP hD hS hl.1 18 19 rfl rfl rfl rfl hg_132.1 hg_132.2.1 hg_132.2.2.1 hg_132.2.2.2.1 hg_132.2.2.2.2 (zall_fit hz_132) rfl dX4_become_132 ?_
  clear hP hD hS; intro H locs hP hD hS
  refine lv_aload_n hx hb dX4_become_135 rfl (lv_at hl 1 rfl) ?_
  refine r_get C hP 0 rfl fl_X4_41 rfl dX4_become_136 ?_
  refine lv_iconst (v := 0) hx hb dX4_become_139 (by decide) ?_
  refine lv_aload_n hx hb dX4_become_140 rfl (lv_at hl 0 rfl) ?_
  refine r_get C hP 1 rfl fl_X4_41 rfl dX4_become_141 ?_
  refine lv_iconst (v := 0) hx hb dX4_become_144 (by decide) ?_
  refine lv_iconst (v := 4) hx hb dX4_become_145 (by decide) ?_
  obtain ⟨hg_146, hf⟩ := cpg_s hf
  refine r_copyi (t0 := 0) (ws' := (wX4_become E a0 a0_ways a0_how a0_passed a0_dreamOf a0_stateOf a0_roomOf a0_handOf a0_awake a0_thingIn a0_full a0_heardBy h h_ways h_how h_passed h_dreamOf h_stateOf h_roomOf h_handOf h_awake h_thingIn h_full h_heardBy a0_ways_steps h_ways_steps v_a0_inn v_a0_setting v_a0_been v_a0_inn v_a0_setting v_a0_been v_a0_ways_rooms v_ways_rooms_32 v_ways_steps_32 v_a0_ways_steps v_a0_how (va_cpy v_a0_how v_how (0 : Int32).toNatClampNeg (0 : Int32).toNatClampNeg (10 : Int32).toNatClampNeg) v_a0_passed (va_cpy v_a0_passed v_passed (0 : Int32).toNatClampNeg (0 : Int32).toNatClampNeg (10 : Int32).toNatClampNeg) v_a0_dreamOf (va_cpy v_a0_dreamOf v_dreamOf (0 : Int32).toNatClampNeg (0 : Int32).toNatClampNeg (3 : Int32).toNatClampNeg) v_a0_stateOf (va_cpy v_a0_stateOf v_stateOf (0 : Int32).toNatClampNeg (0 : Int32).toNatClampNeg (3 : Int32).toNatClampNeg) v_a0_roomOf (va_cpy v_a0_roomOf v_roomOf (0 : Int32).toNatClampNeg (0 : Int32).toNatClampNeg (3 : Int32).toNatClampNeg) v_a0_handOf (va_cpy v_a0_handOf v_handOf (0 : Int32).toNatClampNeg (0 : Int32).toNatClampNeg (3 : Int32).toNatClampNeg) v_a0_awake (va_cpy v_a0_awake v_awake (0 : Int32).toNatClampNeg (0 : Int32).toNatClampNeg (3 : Int32).toNatClampNeg) v_a0_thingIn (va_cpy v_a0_thingIn v_thingIn (0 : Int32).toNatClampNeg (0 : Int32).toNatClampNeg (4 : Int32).toNatClampNeg) v_a0_full v_full v_a0_heardBy v_heardBy)) C sc_X4_92 (Nat.le_of_ble_eq_true rfl) (Nat.le_of_ble_eq_true rfl) hP hD hS hl.1 20 21 rfl rfl rfl rfl hg_146.1 hg_146.2.1 hg_146.2.2.1 hg_146.2.2.2.1 hg_146.2.2.2.2 (fun _ _ => rfl) rfl dX4_become_146 ?_
  clear hP hD hS; intro H locs hP hD hS
  refine lv_aload_n hx hb dX4_become_149 rfl (lv_at hl 1 rfl) ?_
  refine r_get C hP 0 rfl fl_X4_44 rfl dX4_become_150 ?_
  refine lv_iconst (v := 0) hx hb dX4_become_153 (by decide) ?_
  refine lv_aload_n hx hb dX4_become_154 rfl (lv_at hl 0 rfl) ?_
  refine r_get C hP 1 rfl fl_X4_44 rfl dX4_become_155 ?_
  refine lv_iconst (v := 0) hx hb dX4_become_158 (by decide) ?_
  refine lv_iconst (v := 4) hx hb dX4_become_159 (by decide) ?_
  obtain ⟨hg_160, hf⟩ := cpg_s hf
  obtain ⟨hz_160, hf⟩ := zcg_s hf
  refine r_copyi (t0 := 1) (ws' := (wX4_become E a0 a0_ways a0_how a0_passed a0_dreamOf a0_stateOf a0_roomOf a0_handOf a0_awake a0_thingIn a0_full a0_heardBy h h_ways h_how h_passed h_dreamOf h_stateOf h_roomOf h_handOf h_awake h_thingIn h_full h_heardBy a0_ways_steps h_ways_steps v_a0_inn v_a0_setting v_a0_been v_a0_inn v_a0_setting v_a0_been v_a0_ways_rooms v_ways_rooms_32 v_ways_steps_32 v_a0_ways_steps v_a0_how (va_cpy v_a0_how v_how (0 : Int32).toNatClampNeg (0 : Int32).toNatClampNeg (10 : Int32).toNatClampNeg) v_a0_passed (va_cpy v_a0_passed v_passed (0 : Int32).toNatClampNeg (0 : Int32).toNatClampNeg (10 : Int32).toNatClampNeg) v_a0_dreamOf (va_cpy v_a0_dreamOf v_dreamOf (0 : Int32).toNatClampNeg (0 : Int32).toNatClampNeg (3 : Int32).toNatClampNeg) v_a0_stateOf (va_cpy v_a0_stateOf v_stateOf (0 : Int32).toNatClampNeg (0 : Int32).toNatClampNeg (3 : Int32).toNatClampNeg) v_a0_roomOf (va_cpy v_a0_roomOf v_roomOf (0 : Int32).toNatClampNeg (0 : Int32).toNatClampNeg (3 : Int32).toNatClampNeg) v_a0_handOf (va_cpy v_a0_handOf v_handOf (0 : Int32).toNatClampNeg (0 : Int32).toNatClampNeg (3 : Int32).toNatClampNeg) v_a0_awake (va_cpy v_a0_awake v_awake (0 : Int32).toNatClampNeg (0 : Int32).toNatClampNeg (3 : Int32).toNatClampNeg) v_a0_thingIn (va_cpy v_a0_thingIn v_thingIn (0 : Int32).toNatClampNeg (0 : Int32).toNatClampNeg (4 : Int32).toNatClampNeg) v_a0_full (va_cpy v_a0_full v_full (0 : Int32).toNatClampNeg (0 : Int32).toNatClampNeg (4 : Int32).toNatClampNeg) v_a0_heardBy v_heardBy)) C sc_X4_92 (Nat.le_of_ble_eq_true rfl) (Nat.le_of_ble_eq_true rfl) hP hD hS hl.1 22 23 rfl rfl rfl rfl hg_160.1 hg_160.2.1 hg_160.2.2.1 hg_160.2.2.2.1 hg_160.2.2.2.2 (zall_fit hz_160) rfl dX4_become_160 ?_
  clear hP hD hS; intro H locs hP hD hS
  refine lv_aload_n hx hb dX4_become_163 rfl (lv_at hl 1 rfl) ?_
  refine r_get C hP 0 rfl fl_X4_47 rfl dX4_become_164 ?_
  refine lv_iconst (v := 0) hx hb dX4_become_167 (by decide) ?_
  refine lv_aload_n hx hb dX4_become_168 rfl (lv_at hl 0 rfl) ?_
  refine r_get C hP 1 rfl fl_X4_47 rfl dX4_become_169 ?_
  refine lv_iconst (v := 0) hx hb dX4_become_172 (by decide) ?_
  refine lv_iconst (v := 3) hx hb dX4_become_173 (by decide) ?_
  obtain ⟨hg_174, hf⟩ := cpg_s hf
  refine r_copyl (ws' := (wX4_become E a0 a0_ways a0_how a0_passed a0_dreamOf a0_stateOf a0_roomOf a0_handOf a0_awake a0_thingIn a0_full a0_heardBy h h_ways h_how h_passed h_dreamOf h_stateOf h_roomOf h_handOf h_awake h_thingIn h_full h_heardBy a0_ways_steps h_ways_steps v_a0_inn v_a0_setting v_a0_been v_a0_inn v_a0_setting v_a0_been v_a0_ways_rooms v_ways_rooms_32 v_ways_steps_32 v_a0_ways_steps v_a0_how (va_cpy v_a0_how v_how (0 : Int32).toNatClampNeg (0 : Int32).toNatClampNeg (10 : Int32).toNatClampNeg) v_a0_passed (va_cpy v_a0_passed v_passed (0 : Int32).toNatClampNeg (0 : Int32).toNatClampNeg (10 : Int32).toNatClampNeg) v_a0_dreamOf (va_cpy v_a0_dreamOf v_dreamOf (0 : Int32).toNatClampNeg (0 : Int32).toNatClampNeg (3 : Int32).toNatClampNeg) v_a0_stateOf (va_cpy v_a0_stateOf v_stateOf (0 : Int32).toNatClampNeg (0 : Int32).toNatClampNeg (3 : Int32).toNatClampNeg) v_a0_roomOf (va_cpy v_a0_roomOf v_roomOf (0 : Int32).toNatClampNeg (0 : Int32).toNatClampNeg (3 : Int32).toNatClampNeg) v_a0_handOf (va_cpy v_a0_handOf v_handOf (0 : Int32).toNatClampNeg (0 : Int32).toNatClampNeg (3 : Int32).toNatClampNeg) v_a0_awake (va_cpy v_a0_awake v_awake (0 : Int32).toNatClampNeg (0 : Int32).toNatClampNeg (3 : Int32).toNatClampNeg) v_a0_thingIn (va_cpy v_a0_thingIn v_thingIn (0 : Int32).toNatClampNeg (0 : Int32).toNatClampNeg (4 : Int32).toNatClampNeg) v_a0_full (va_cpy v_a0_full v_full (0 : Int32).toNatClampNeg (0 : Int32).toNatClampNeg (4 : Int32).toNatClampNeg) v_a0_heardBy (va_cpy v_a0_heardBy v_heardBy (0 : Int32).toNatClampNeg (0 : Int32).toNatClampNeg (3 : Int32).toNatClampNeg))) C sc_X4_92 (Nat.le_of_ble_eq_true rfl) (Nat.le_of_ble_eq_true rfl) hP hD hS hl.1 24 25 rfl rfl hg_174.1 hg_174.2.1 hg_174.2.2.1 hg_174.2.2.2.1 hg_174.2.2.2.2 rfl dX4_become_174 ?_
  clear hP hD hS; intro H locs hP hD hS
  cases hf
  rw [hQ]
  exact r_vret C hr hP hD hS dX4_become_177
def wX10_mark (E : EN) (h h_reader h_inn h_chosen h_night h_marks h_notes h_casts h_inn_house h_inn_thingIn h_inn_full h_inn_states h_inn_bed h_inn_dreamOf h_inn_listensIn h_m0 h_m1 h_m2 h_night_ways h_night_how h_night_passed h_night_dreamOf h_night_stateOf h_night_roomOf h_night_handOf h_night_awake h_night_thingIn h_night_full h_night_heardBy h_m0_ways h_m0_how h_m0_passed h_m0_dreamOf h_m0_stateOf h_m0_roomOf h_m0_handOf h_m0_awake h_m0_thingIn h_m0_full h_m0_heardBy h_night_ways_steps h_m0_ways_steps h_m1_ways h_m1_how h_m1_passed h_m1_dreamOf h_m1_stateOf h_m1_roomOf h_m1_handOf h_m1_awake h_m1_thingIn h_m1_full h_m1_heardBy h_m1_ways_steps h_m2_ways h_m2_how h_m2_passed h_m2_dreamOf h_m2_stateOf h_m2_roomOf h_m2_handOf h_m2_awake h_m2_thingIn h_m2_full h_m2_heardBy h_m2_ways_steps : Nat) (v_marked : Int32) (v_refusal : Int32) (v_latestFault : Int32) (v_faultPlace : Int32) (v_inn_minutes : Int32) (v_inn_things : Int32) (v_inn_dreams : Int32) (v_inn_sleepers : Int32) (v_inn_listeners : Int32) (v_night_setting : Int32) (v_night_been : Int32) (v_m0_inn : Option Nat) (v_m0_setting : Int32) (v_m0_been : Int32) (v_night_ways_rooms : Int32) (v_m0_ways_rooms : Int32) (v_m0_ways_steps : Nat → Int32) (v_night_ways_steps : Nat → Int32) (v_night_how : Nat → Int32) (v_m0_how : Nat → Int32) (v_night_passed : Nat → Int32) (v_m0_passed : Nat → Int32) (v_night_dreamOf : Nat → Int32) (v_m0_dreamOf : Nat → Int32) (v_night_stateOf : Nat → Int32) (v_m0_stateOf : Nat → Int32) (v_night_roomOf : Nat → Int32) (v_m0_roomOf : Nat → Int32) (v_night_handOf : Nat → Int32) (v_m0_handOf : Nat → Int32) (v_night_awake : Nat → Int32) (v_m0_awake : Nat → Int32) (v_night_thingIn : Nat → Int32) (v_m0_thingIn : Nat → Int32) (v_night_full : Nat → Int32) (v_m0_full : Nat → Int32) (v_night_heardBy : Nat → Int64) (v_m0_heardBy : Nat → Int64) (v_m1_inn : Option Nat) (v_m1_setting : Int32) (v_m1_been : Int32) (v_m1_ways_rooms : Int32) (v_m1_ways_steps : Nat → Int32) (v_m1_how : Nat → Int32) (v_m1_passed : Nat → Int32) (v_m1_dreamOf : Nat → Int32) (v_m1_stateOf : Nat → Int32) (v_m1_roomOf : Nat → Int32) (v_m1_handOf : Nat → Int32) (v_m1_awake : Nat → Int32) (v_m1_thingIn : Nat → Int32) (v_m1_full : Nat → Int32) (v_m1_heardBy : Nat → Int64) (v_m2_inn : Option Nat) (v_m2_setting : Int32) (v_m2_been : Int32) (v_m2_ways_rooms : Int32) (v_m2_ways_steps : Nat → Int32) (v_m2_how : Nat → Int32) (v_m2_passed : Nat → Int32) (v_m2_dreamOf : Nat → Int32) (v_m2_stateOf : Nat → Int32) (v_m2_roomOf : Nat → Int32) (v_m2_handOf : Nat → Int32) (v_m2_awake : Nat → Int32) (v_m2_thingIn : Nat → Int32) (v_m2_full : Nat → Int32) (v_m2_heardBy : Nat → Int64) : va_W := [(h, .inr (9, [.ref h_reader, .ref h_inn, .ref h_chosen, .ref h_night, .ref h_marks, .int v_marked, .ref h_notes, .ref h_casts, .int v_refusal, .int v_latestFault, .int v_faultPlace])), (h_inn, .inr (2, [.ref h_inn_house, .int v_inn_minutes, .int v_inn_things, .ref h_inn_thingIn, .ref h_inn_full, .int v_inn_dreams, .ref h_inn_states, .int v_inn_sleepers, .ref h_inn_bed, .ref h_inn_dreamOf, .int v_inn_listeners, .ref h_inn_listensIn])), (h_marks, aQ E 3 (mk3 h_m0 h_m1 h_m2)), (h_night, .inr (4, [.ref h_inn, .int v_night_setting, .int v_night_been, .ref h_night_ways, .ref h_night_how, .ref h_night_passed, .ref h_night_dreamOf, .ref h_night_stateOf, .ref h_night_roomOf, .ref h_night_handOf, .ref h_night_awake, .ref h_night_thingIn, .ref h_night_full, .ref h_night_heardBy])), (h_m0, .inr (4, [va_rf v_m0_inn, .int v_m0_setting, .int v_m0_been, .ref h_m0_ways, .ref h_m0_how, .ref h_m0_passed, .ref h_m0_dreamOf, .ref h_m0_stateOf, .ref h_m0_roomOf, .ref h_m0_handOf, .ref h_m0_awake, .ref h_m0_thingIn, .ref h_m0_full, .ref h_m0_heardBy])), (h_night_ways, .inr (8, [.ref h_night_ways_steps, .int v_night_ways_rooms])), (h_m0_ways, .inr (8, [.ref h_m0_ways_steps, .int v_m0_ways_rooms])), (h_m0_ways_steps, aI E 64 v_m0_ways_steps), (h_night_ways_steps, aI E 64 v_night_ways_steps), (h_night_how, aI E 10 v_night_how), (h_m0_how, aI E 10 v_m0_how), (h_night_passed, aI E 10 v_night_passed), (h_m0_passed, aI E 10 v_m0_passed), (h_night_dreamOf, aI E 3 v_night_dreamOf), (h_m0_dreamOf, aI E 3 v_m0_dreamOf), (h_night_stateOf, aI E 3 v_night_stateOf), (h_m0_stateOf, aI E 3 v_m0_stateOf), (h_night_roomOf, aI E 3 v_night_roomOf), (h_m0_roomOf, aI E 3 v_m0_roomOf), (h_night_handOf, aI E 3 v_night_handOf), (h_m0_handOf, aI E 3 v_m0_handOf), (h_night_awake, aZ E 3 v_night_awake), (h_m0_awake, aZ E 3 v_m0_awake), (h_night_thingIn, aI E 4 v_night_thingIn), (h_m0_thingIn, aI E 4 v_m0_thingIn), (h_night_full, aZ E 4 v_night_full), (h_m0_full, aZ E 4 v_m0_full), (h_night_heardBy, aJ E 3 v_night_heardBy), (h_m0_heardBy, aJ E 3 v_m0_heardBy), (h_m1, .inr (4, [va_rf v_m1_inn, .int v_m1_setting, .int v_m1_been, .ref h_m1_ways, .ref h_m1_how, .ref h_m1_passed, .ref h_m1_dreamOf, .ref h_m1_stateOf, .ref h_m1_roomOf, .ref h_m1_handOf, .ref h_m1_awake, .ref h_m1_thingIn, .ref h_m1_full, .ref h_m1_heardBy])), (h_m1_ways, .inr (8, [.ref h_m1_ways_steps, .int v_m1_ways_rooms])), (h_m1_ways_steps, aI E 64 v_m1_ways_steps), (h_m1_how, aI E 10 v_m1_how), (h_m1_passed, aI E 10 v_m1_passed), (h_m1_dreamOf, aI E 3 v_m1_dreamOf), (h_m1_stateOf, aI E 3 v_m1_stateOf), (h_m1_roomOf, aI E 3 v_m1_roomOf), (h_m1_handOf, aI E 3 v_m1_handOf), (h_m1_awake, aZ E 3 v_m1_awake), (h_m1_thingIn, aI E 4 v_m1_thingIn), (h_m1_full, aZ E 4 v_m1_full), (h_m1_heardBy, aJ E 3 v_m1_heardBy), (h_m2, .inr (4, [va_rf v_m2_inn, .int v_m2_setting, .int v_m2_been, .ref h_m2_ways, .ref h_m2_how, .ref h_m2_passed, .ref h_m2_dreamOf, .ref h_m2_stateOf, .ref h_m2_roomOf, .ref h_m2_handOf, .ref h_m2_awake, .ref h_m2_thingIn, .ref h_m2_full, .ref h_m2_heardBy])), (h_m2_ways, .inr (8, [.ref h_m2_ways_steps, .int v_m2_ways_rooms])), (h_m2_ways_steps, aI E 64 v_m2_ways_steps), (h_m2_how, aI E 10 v_m2_how), (h_m2_passed, aI E 10 v_m2_passed), (h_m2_dreamOf, aI E 3 v_m2_dreamOf), (h_m2_stateOf, aI E 3 v_m2_stateOf), (h_m2_roomOf, aI E 3 v_m2_roomOf), (h_m2_handOf, aI E 3 v_m2_handOf), (h_m2_awake, aZ E 3 v_m2_awake), (h_m2_thingIn, aI E 4 v_m2_thingIn), (h_m2_full, aZ E 4 v_m2_full), (h_m2_heardBy, aJ E 3 v_m2_heardBy)]
def fX10_mark (N : Nat) (v_marked : Int32) (v_inn_minutes : Int32) (v_night_setting : Int32) (v_night_been : Int32) (v_m0_inn : Option Nat) (v_m0_setting : Int32) (v_m0_been : Int32) (v_night_ways_rooms : Int32) (v_m0_ways_rooms : Int32) (v_m0_ways_steps : Nat → Int32) (v_night_ways_steps : Nat → Int32) (v_night_how : Nat → Int32) (v_m0_how : Nat → Int32) (v_night_passed : Nat → Int32) (v_m0_passed : Nat → Int32) (v_night_dreamOf : Nat → Int32) (v_m0_dreamOf : Nat → Int32) (v_night_stateOf : Nat → Int32) (v_m0_stateOf : Nat → Int32) (v_night_roomOf : Nat → Int32) (v_m0_roomOf : Nat → Int32) (v_night_handOf : Nat → Int32) (v_m0_handOf : Nat → Int32) (v_night_awake : Nat → Int32) (v_m0_awake : Nat → Int32) (v_night_thingIn : Nat → Int32) (v_m0_thingIn : Nat → Int32) (v_night_full : Nat → Int32) (v_m0_full : Nat → Int32) (v_night_heardBy : Nat → Int64) (v_m0_heardBy : Nat → Int64) (v_m1_inn : Option Nat) (v_m1_setting : Int32) (v_m1_been : Int32) (v_m1_ways_rooms : Int32) (v_m1_ways_steps : Nat → Int32) (v_m1_how : Nat → Int32) (v_m1_passed : Nat → Int32) (v_m1_dreamOf : Nat → Int32) (v_m1_stateOf : Nat → Int32) (v_m1_roomOf : Nat → Int32) (v_m1_handOf : Nat → Int32) (v_m1_awake : Nat → Int32) (v_m1_thingIn : Nat → Int32) (v_m1_full : Nat → Int32) (v_m1_heardBy : Nat → Int64) (v_m2_inn : Option Nat) (v_m2_setting : Int32) (v_m2_been : Int32) (v_m2_ways_rooms : Int32) (v_m2_ways_steps : Nat → Int32) (v_m2_how : Nat → Int32) (v_m2_passed : Nat → Int32) (v_m2_dreamOf : Nat → Int32) (v_m2_stateOf : Nat → Int32) (v_m2_roomOf : Nat → Int32) (v_m2_handOf : Nat → Int32) (v_m2_awake : Nat → Int32) (v_m2_thingIn : Nat → Int32) (v_m2_full : Nat → Int32) (v_m2_heardBy : Nat → Int64) (h_inn : Nat) : Option (Int32 × Int32 × Int32 × Option Nat × Int32 × Int32 × Int32 × (Nat → Int32) × (Nat → Int32) × (Nat → Int32) × (Nat → Int32) × (Nat → Int32) × (Nat → Int32) × (Nat → Int32) × (Nat → Int32) × (Nat → Int32) × (Nat → Int32) × (Nat → Int64) × Option Nat × Int32 × Int32 × Int32 × (Nat → Int32) × (Nat → Int32) × (Nat → Int32) × (Nat → Int32) × (Nat → Int32) × (Nat → Int32) × (Nat → Int32) × (Nat → Int32) × (Nat → Int32) × (Nat → Int32) × (Nat → Int64) × Option Nat × Int32 × Int32 × Int32 × (Nat → Int32) × (Nat → Int32) × (Nat → Int32) × (Nat → Int32) × (Nat → Int32) × (Nat → Int32) × (Nat → Int32) × (Nat → Int32) × (Nat → Int32) × (Nat → Int32) × (Nat → Int64)) := (fX10_isTold N v_inn_minutes).bind (un1 fun (r_1 : Int32) => if r_1 = 0 then ((fX10_refuse N 1).bind (un2 fun (r_9 : Int32) (v_refusal_9 : Int32) => some (r_9, v_marked, v_refusal_9, v_m0_inn, v_m0_setting, v_m0_been, v_m0_ways_rooms, v_m0_ways_steps, v_m0_how, v_m0_passed, v_m0_dreamOf, v_m0_stateOf, v_m0_roomOf, v_m0_handOf, v_m0_awake, v_m0_thingIn, v_m0_full, v_m0_heardBy, v_m1_inn, v_m1_setting, v_m1_been, v_m1_ways_rooms, v_m1_ways_steps, v_m1_how, v_m1_passed, v_m1_dreamOf, v_m1_stateOf, v_m1_roomOf, v_m1_handOf, v_m1_awake, v_m1_thingIn, v_m1_full, v_m1_heardBy, v_m2_inn, v_m2_setting, v_m2_been, v_m2_ways_rooms, v_m2_ways_steps, v_m2_how, v_m2_passed, v_m2_dreamOf, v_m2_stateOf, v_m2_roomOf, v_m2_handOf, v_m2_awake, v_m2_thingIn, v_m2_full, v_m2_heardBy))) else (if v_marked < 3 then (gd v_marked 3 (if v_marked = 0 then ((fX4_become N (some h_inn) v_night_setting v_night_been v_night_ways_rooms v_m0_ways_steps v_night_ways_steps v_night_how v_m0_how v_night_passed v_m0_passed v_night_dreamOf v_m0_dreamOf v_night_stateOf v_m0_stateOf v_night_roomOf v_m0_roomOf v_night_handOf v_m0_handOf v_night_awake v_m0_awake v_night_thingIn v_m0_thingIn v_night_full v_m0_full v_night_heardBy v_m0_heardBy).bind (un15 fun (v_m0_inn_40 : Option Nat) (v_m0_setting_40 : Int32) (v_m0_been_40 : Int32) (v_m0_ways_rooms_40 : Int32) (v_m0_ways_steps_40 : Nat → Int32) (v_m0_how_40 : Nat → Int32) (v_m0_passed_40 : Nat → Int32) (v_m0_dreamOf_40 : Nat → Int32) (v_m0_stateOf_40 : Nat → Int32) (v_m0_roomOf_40 : Nat → Int32) (v_m0_handOf_40 : Nat → Int32) (v_m0_awake_40 : Nat → Int32) (v_m0_thingIn_40 : Nat → Int32) (v_m0_full_40 : Nat → Int32) (v_m0_heardBy_40 : Nat → Int64) => (fX10_answer N ((v_marked + 1) - 1)).bind (un2 fun (r_60 : Int32) (v_refusal_60 : Int32) => some (r_60, v_marked + 1, v_refusal_60, v_m0_inn_40, v_m0_setting_40, v_m0_been_40, v_m0_ways_rooms_40, v_m0_ways_steps_40, v_m0_how_40, v_m0_passed_40, v_m0_dreamOf_40, v_m0_stateOf_40, v_m0_roomOf_40, v_m0_handOf_40, v_m0_awake_40, v_m0_thingIn_40, v_m0_full_40, v_m0_heardBy_40, v_m1_inn, v_m1_setting, v_m1_been, v_m1_ways_rooms, v_m1_ways_steps, v_m1_how, v_m1_passed, v_m1_dreamOf, v_m1_stateOf, v_m1_roomOf, v_m1_handOf, v_m1_awake, v_m1_thingIn, v_m1_full, v_m1_heardBy, v_m2_inn, v_m2_setting, v_m2_been, v_m2_ways_rooms, v_m2_ways_steps, v_m2_how, v_m2_passed, v_m2_dreamOf, v_m2_stateOf, v_m2_roomOf, v_m2_handOf, v_m2_awake, v_m2_thingIn, v_m2_full, v_m2_heardBy)))) else (if v_marked = 1 then ((fX4_become N (some h_inn) v_night_setting v_night_been v_night_ways_rooms v_m1_ways_steps v_night_ways_steps v_night_how v_m1_how v_night_passed v_m1_passed v_night_dreamOf v_m1_dreamOf v_night_stateOf v_m1_stateOf v_night_roomOf v_m1_roomOf v_night_handOf v_m1_handOf v_night_awake v_m1_awake v_night_thingIn v_m1_thingIn v_night_full v_m1_full v_night_heardBy v_m1_heardBy).bind (un15 fun (v_m1_inn_40 : Option Nat) (v_m1_setting_40 : Int32) (v_m1_been_40 : Int32) (v_m1_ways_rooms_40 : Int32) (v_m1_ways_steps_40 : Nat → Int32) (v_m1_how_40 : Nat → Int32) (v_m1_passed_40 : Nat → Int32) (v_m1_dreamOf_40 : Nat → Int32) (v_m1_stateOf_40 : Nat → Int32) (v_m1_roomOf_40 : Nat → Int32) (v_m1_handOf_40 : Nat → Int32) (v_m1_awake_40 : Nat → Int32) (v_m1_thingIn_40 : Nat → Int32) (v_m1_full_40 : Nat → Int32) (v_m1_heardBy_40 : Nat → Int64) => (fX10_answer N ((v_marked + 1) - 1)).bind (un2 fun (r_60 : Int32) (v_refusal_60 : Int32) => some (r_60, v_marked + 1, v_refusal_60, v_m0_inn, v_m0_setting, v_m0_been, v_m0_ways_rooms, v_m0_ways_steps, v_m0_how, v_m0_passed, v_m0_dreamOf, v_m0_stateOf, v_m0_roomOf, v_m0_handOf, v_m0_awake, v_m0_thingIn, v_m0_full, v_m0_heardBy, v_m1_inn_40, v_m1_setting_40, v_m1_been_40, v_m1_ways_rooms_40, v_m1_ways_steps_40, v_m1_how_40, v_m1_passed_40, v_m1_dreamOf_40, v_m1_stateOf_40, v_m1_roomOf_40, v_m1_handOf_40, v_m1_awake_40, v_m1_thingIn_40, v_m1_full_40, v_m1_heardBy_40, v_m2_inn, v_m2_setting, v_m2_been, v_m2_ways_rooms, v_m2_ways_steps, v_m2_how, v_m2_passed, v_m2_dreamOf, v_m2_stateOf, v_m2_roomOf, v_m2_handOf, v_m2_awake, v_m2_thingIn, v_m2_full, v_m2_heardBy)))) else ((fX4_become N (some h_inn) v_night_setting v_night_been v_night_ways_rooms v_m2_ways_steps v_night_ways_steps v_night_how v_m2_how v_night_passed v_m2_passed v_night_dreamOf v_m2_dreamOf v_night_stateOf v_m2_stateOf v_night_roomOf v_m2_roomOf v_night_handOf v_m2_handOf v_night_awake v_m2_awake v_night_thingIn v_m2_thingIn v_night_full v_m2_full v_night_heardBy v_m2_heardBy).bind (un15 fun (v_m2_inn_40 : Option Nat) (v_m2_setting_40 : Int32) (v_m2_been_40 : Int32) (v_m2_ways_rooms_40 : Int32) (v_m2_ways_steps_40 : Nat → Int32) (v_m2_how_40 : Nat → Int32) (v_m2_passed_40 : Nat → Int32) (v_m2_dreamOf_40 : Nat → Int32) (v_m2_stateOf_40 : Nat → Int32) (v_m2_roomOf_40 : Nat → Int32) (v_m2_handOf_40 : Nat → Int32) (v_m2_awake_40 : Nat → Int32) (v_m2_thingIn_40 : Nat → Int32) (v_m2_full_40 : Nat → Int32) (v_m2_heardBy_40 : Nat → Int64) => (fX10_answer N ((v_marked + 1) - 1)).bind (un2 fun (r_60 : Int32) (v_refusal_60 : Int32) => some (r_60, v_marked + 1, v_refusal_60, v_m0_inn, v_m0_setting, v_m0_been, v_m0_ways_rooms, v_m0_ways_steps, v_m0_how, v_m0_passed, v_m0_dreamOf, v_m0_stateOf, v_m0_roomOf, v_m0_handOf, v_m0_awake, v_m0_thingIn, v_m0_full, v_m0_heardBy, v_m1_inn, v_m1_setting, v_m1_been, v_m1_ways_rooms, v_m1_ways_steps, v_m1_how, v_m1_passed, v_m1_dreamOf, v_m1_stateOf, v_m1_roomOf, v_m1_handOf, v_m1_awake, v_m1_thingIn, v_m1_full, v_m1_heardBy, v_m2_inn_40, v_m2_setting_40, v_m2_been_40, v_m2_ways_rooms_40, v_m2_ways_steps_40, v_m2_how_40, v_m2_passed_40, v_m2_dreamOf_40, v_m2_stateOf_40, v_m2_roomOf_40, v_m2_handOf_40, v_m2_awake_40, v_m2_thingIn_40, v_m2_full_40, v_m2_heardBy_40))))))) else ((fX10_refuse N 3).bind (un2 fun (r_23 : Int32) (v_refusal_23 : Int32) => some (r_23, v_marked, v_refusal_23, v_m0_inn, v_m0_setting, v_m0_been, v_m0_ways_rooms, v_m0_ways_steps, v_m0_how, v_m0_passed, v_m0_dreamOf, v_m0_stateOf, v_m0_roomOf, v_m0_handOf, v_m0_awake, v_m0_thingIn, v_m0_full, v_m0_heardBy, v_m1_inn, v_m1_setting, v_m1_been, v_m1_ways_rooms, v_m1_ways_steps, v_m1_how, v_m1_passed, v_m1_dreamOf, v_m1_stateOf, v_m1_roomOf, v_m1_handOf, v_m1_awake, v_m1_thingIn, v_m1_full, v_m1_heardBy, v_m2_inn, v_m2_setting, v_m2_been, v_m2_ways_rooms, v_m2_ways_steps, v_m2_how, v_m2_passed, v_m2_dreamOf, v_m2_stateOf, v_m2_roomOf, v_m2_handOf, v_m2_awake, v_m2_thingIn, v_m2_full, v_m2_heardBy)))))
set_option maxHeartbeats 4000000 in
set_option maxRecDepth 100000 in
theorem ctX10_mark (l : Launch) (E : EN) (h h_reader h_inn h_chosen h_night h_marks h_notes h_casts h_inn_house h_inn_thingIn h_inn_full h_inn_states h_inn_bed h_inn_dreamOf h_inn_listensIn h_m0 h_m1 h_m2 h_night_ways h_night_how h_night_passed h_night_dreamOf h_night_stateOf h_night_roomOf h_night_handOf h_night_awake h_night_thingIn h_night_full h_night_heardBy h_m0_ways h_m0_how h_m0_passed h_m0_dreamOf h_m0_stateOf h_m0_roomOf h_m0_handOf h_m0_awake h_m0_thingIn h_m0_full h_m0_heardBy h_night_ways_steps h_m0_ways_steps h_m1_ways h_m1_how h_m1_passed h_m1_dreamOf h_m1_stateOf h_m1_roomOf h_m1_handOf h_m1_awake h_m1_thingIn h_m1_full h_m1_heardBy h_m1_ways_steps h_m2_ways h_m2_how h_m2_passed h_m2_dreamOf h_m2_stateOf h_m2_roomOf h_m2_handOf h_m2_awake h_m2_thingIn h_m2_full h_m2_heardBy h_m2_ways_steps : Nat) (v_marked : Int32) (v_refusal : Int32) (v_latestFault : Int32) (v_faultPlace : Int32) (v_inn_minutes : Int32) (v_inn_things : Int32) (v_inn_dreams : Int32) (v_inn_sleepers : Int32) (v_inn_listeners : Int32) (v_night_setting : Int32) (v_night_been : Int32) (v_m0_inn : Option Nat) (v_m0_setting : Int32) (v_m0_been : Int32) (v_night_ways_rooms : Int32) (v_m0_ways_rooms : Int32) (v_m0_ways_steps : Nat → Int32) (v_night_ways_steps : Nat → Int32) (v_night_how : Nat → Int32) (v_m0_how : Nat → Int32) (v_night_passed : Nat → Int32) (v_m0_passed : Nat → Int32) (v_night_dreamOf : Nat → Int32) (v_m0_dreamOf : Nat → Int32) (v_night_stateOf : Nat → Int32) (v_m0_stateOf : Nat → Int32) (v_night_roomOf : Nat → Int32) (v_m0_roomOf : Nat → Int32) (v_night_handOf : Nat → Int32) (v_m0_handOf : Nat → Int32) (v_night_awake : Nat → Int32) (v_m0_awake : Nat → Int32) (v_night_thingIn : Nat → Int32) (v_m0_thingIn : Nat → Int32) (v_night_full : Nat → Int32) (v_m0_full : Nat → Int32) (v_night_heardBy : Nat → Int64) (v_m0_heardBy : Nat → Int64) (v_m1_inn : Option Nat) (v_m1_setting : Int32) (v_m1_been : Int32) (v_m1_ways_rooms : Int32) (v_m1_ways_steps : Nat → Int32) (v_m1_how : Nat → Int32) (v_m1_passed : Nat → Int32) (v_m1_dreamOf : Nat → Int32) (v_m1_stateOf : Nat → Int32) (v_m1_roomOf : Nat → Int32) (v_m1_handOf : Nat → Int32) (v_m1_awake : Nat → Int32) (v_m1_thingIn : Nat → Int32) (v_m1_full : Nat → Int32) (v_m1_heardBy : Nat → Int64) (v_m2_inn : Option Nat) (v_m2_setting : Int32) (v_m2_been : Int32) (v_m2_ways_rooms : Int32) (v_m2_ways_steps : Nat → Int32) (v_m2_how : Nat → Int32) (v_m2_passed : Nat → Int32) (v_m2_dreamOf : Nat → Int32) (v_m2_stateOf : Nat → Int32) (v_m2_roomOf : Nat → Int32) (v_m2_handOf : Nat → Int32) (v_m2_awake : Nat → Int32) (v_m2_thingIn : Nat → Int32) (v_m2_full : Nat → Int32) (v_m2_heardBy : Nat → Int64) (N : Nat) (z0 : Int32) (z1 : Int32) (z2 : Int32) (z3 : Option Nat) (z4 : Int32) (z5 : Int32) (z6 : Int32) (z7 : Nat → Int32) (z8 : Nat → Int32) (z9 : Nat → Int32) (z10 : Nat → Int32) (z11 : Nat → Int32) (z12 : Nat → Int32) (z13 : Nat → Int32) (z14 : Nat → Int32) (z15 : Nat → Int32) (z16 : Nat → Int32) (z17 : Nat → Int64) (z18 : Option Nat) (z19 : Int32) (z20 : Int32) (z21 : Int32) (z22 : Nat → Int32) (z23 : Nat → Int32) (z24 : Nat → Int32) (z25 : Nat → Int32) (z26 : Nat → Int32) (z27 : Nat → Int32) (z28 : Nat → Int32) (z29 : Nat → Int32) (z30 : Nat → Int32) (z31 : Nat → Int32) (z32 : Nat → Int64) (z33 : Option Nat) (z34 : Int32) (z35 : Int32) (z36 : Int32) (z37 : Nat → Int32) (z38 : Nat → Int32) (z39 : Nat → Int32) (z40 : Nat → Int32) (z41 : Nat → Int32) (z42 : Nat → Int32) (z43 : Nat → Int32) (z44 : Nat → Int32) (z45 : Nat → Int32) (z46 : Nat → Int32) (z47 : Nat → Int64) (hf : fX10_mark N v_marked v_inn_minutes v_night_setting v_night_been v_m0_inn v_m0_setting v_m0_been v_night_ways_rooms v_m0_ways_rooms v_m0_ways_steps v_night_ways_steps v_night_how v_m0_how v_night_passed v_m0_passed v_night_dreamOf v_m0_dreamOf v_night_stateOf v_m0_stateOf v_night_roomOf v_m0_roomOf v_night_handOf v_m0_handOf v_night_awake v_m0_awake v_night_thingIn v_m0_thingIn v_night_full v_m0_full v_night_heardBy v_m0_heardBy v_m1_inn v_m1_setting v_m1_been v_m1_ways_rooms v_m1_ways_steps v_m1_how v_m1_passed v_m1_dreamOf v_m1_stateOf v_m1_roomOf v_m1_handOf v_m1_awake v_m1_thingIn v_m1_full v_m1_heardBy v_m2_inn v_m2_setting v_m2_been v_m2_ways_rooms v_m2_ways_steps v_m2_how v_m2_passed v_m2_dreamOf v_m2_stateOf v_m2_roomOf v_m2_handOf v_m2_awake v_m2_thingIn v_m2_full v_m2_heardBy h_inn = some (z0, z1, z2, z3, z4, z5, z6, z7, z8, z9, z10, z11, z12, z13, z14, z15, z16, z17, z18, z19, z20, z21, z22, z23, z24, z25, z26, z27, z28, z29, z30, z31, z32, z33, z34, z35, z36, z37, z38, z39, z40, z41, z42, z43, z44, z45, z46, z47)) : CTi l E yX10_mark cX10_mark 1 .int 3 68 [.ref h] (wX10_mark E h h_reader h_inn h_chosen h_night h_marks h_notes h_casts h_inn_house h_inn_thingIn h_inn_full h_inn_states h_inn_bed h_inn_dreamOf h_inn_listensIn h_m0 h_m1 h_m2 h_night_ways h_night_how h_night_passed h_night_dreamOf h_night_stateOf h_night_roomOf h_night_handOf h_night_awake h_night_thingIn h_night_full h_night_heardBy h_m0_ways h_m0_how h_m0_passed h_m0_dreamOf h_m0_stateOf h_m0_roomOf h_m0_handOf h_m0_awake h_m0_thingIn h_m0_full h_m0_heardBy h_night_ways_steps h_m0_ways_steps h_m1_ways h_m1_how h_m1_passed h_m1_dreamOf h_m1_stateOf h_m1_roomOf h_m1_handOf h_m1_awake h_m1_thingIn h_m1_full h_m1_heardBy h_m1_ways_steps h_m2_ways h_m2_how h_m2_passed h_m2_dreamOf h_m2_stateOf h_m2_roomOf h_m2_handOf h_m2_awake h_m2_thingIn h_m2_full h_m2_heardBy h_m2_ways_steps v_marked v_refusal v_latestFault v_faultPlace v_inn_minutes v_inn_things v_inn_dreams v_inn_sleepers v_inn_listeners v_night_setting v_night_been v_m0_inn v_m0_setting v_m0_been v_night_ways_rooms v_m0_ways_rooms v_m0_ways_steps v_night_ways_steps v_night_how v_m0_how v_night_passed v_m0_passed v_night_dreamOf v_m0_dreamOf v_night_stateOf v_m0_stateOf v_night_roomOf v_m0_roomOf v_night_handOf v_m0_handOf v_night_awake v_m0_awake v_night_thingIn v_m0_thingIn v_night_full v_m0_full v_night_heardBy v_m0_heardBy v_m1_inn v_m1_setting v_m1_been v_m1_ways_rooms v_m1_ways_steps v_m1_how v_m1_passed v_m1_dreamOf v_m1_stateOf v_m1_roomOf v_m1_handOf v_m1_awake v_m1_thingIn v_m1_full v_m1_heardBy v_m2_inn v_m2_setting v_m2_been v_m2_ways_rooms v_m2_ways_steps v_m2_how v_m2_passed v_m2_dreamOf v_m2_stateOf v_m2_roomOf v_m2_handOf v_m2_awake v_m2_thingIn v_m2_full v_m2_heardBy) z0 (wX10_mark E h h_reader h_inn h_chosen h_night h_marks h_notes h_casts h_inn_house h_inn_thingIn h_inn_full h_inn_states h_inn_bed h_inn_dreamOf h_inn_listensIn h_m0 h_m1 h_m2 h_night_ways h_night_how h_night_passed h_night_dreamOf h_night_stateOf h_night_roomOf h_night_handOf h_night_awake h_night_thingIn h_night_full h_night_heardBy h_m0_ways h_m0_how h_m0_passed h_m0_dreamOf h_m0_stateOf h_m0_roomOf h_m0_handOf h_m0_awake h_m0_thingIn h_m0_full h_m0_heardBy h_night_ways_steps h_m0_ways_steps h_m1_ways h_m1_how h_m1_passed h_m1_dreamOf h_m1_stateOf h_m1_roomOf h_m1_handOf h_m1_awake h_m1_thingIn h_m1_full h_m1_heardBy h_m1_ways_steps h_m2_ways h_m2_how h_m2_passed h_m2_dreamOf h_m2_stateOf h_m2_roomOf h_m2_handOf h_m2_awake h_m2_thingIn h_m2_full h_m2_heardBy h_m2_ways_steps z1 z2 v_latestFault v_faultPlace v_inn_minutes v_inn_things v_inn_dreams v_inn_sleepers v_inn_listeners v_night_setting v_night_been z3 z4 z5 v_night_ways_rooms z6 z7 v_night_ways_steps v_night_how z8 v_night_passed z9 v_night_dreamOf z10 v_night_stateOf z11 v_night_roomOf z12 v_night_handOf z13 v_night_awake z14 v_night_thingIn z15 v_night_full z16 v_night_heardBy z17 z18 z19 z20 z21 z22 z23 z24 z25 z26 z27 z28 z29 z30 z31 z32 z33 z34 z35 z36 z37 z38 z39 z40 z41 z42 z43 z44 z45 z46 z47) := by
  intro sz
  refine ct_body (by decide) (Nat.le_of_ble_eq_true rfl) ?_
  intro p e s m args below meth c A ls hAe C hr hin hP hD hS hl
  have C : CX p s m args meth c cX10_mark RX10 1 E A := C
  have hl : lv_has ls 1 [(0, .ref h)] := hl
  have hx := C.1
  have hb := C.2.1
  rw [hAe]
  clear hAe
  obtain ⟨Q, hQ⟩ : ∃ Q, Q = MQ below (Qi E A z0 (wX10_mark E h h_reader h_inn h_chosen h_night h_marks h_notes h_casts h_inn_house h_inn_thingIn h_inn_full h_inn_states h_inn_bed h_inn_dreamOf h_inn_listensIn h_m0 h_m1 h_m2 h_night_ways h_night_how h_night_passed h_night_dreamOf h_night_stateOf h_night_roomOf h_night_handOf h_night_awake h_night_thingIn h_night_full h_night_heardBy h_m0_ways h_m0_how h_m0_passed h_m0_dreamOf h_m0_stateOf h_m0_roomOf h_m0_handOf h_m0_awake h_m0_thingIn h_m0_full h_m0_heardBy h_night_ways_steps h_m0_ways_steps h_m1_ways h_m1_how h_m1_passed h_m1_dreamOf h_m1_stateOf h_m1_roomOf h_m1_handOf h_m1_awake h_m1_thingIn h_m1_full h_m1_heardBy h_m1_ways_steps h_m2_ways h_m2_how h_m2_passed h_m2_dreamOf h_m2_stateOf h_m2_roomOf h_m2_handOf h_m2_awake h_m2_thingIn h_m2_full h_m2_heardBy h_m2_ways_steps z1 z2 v_latestFault v_faultPlace v_inn_minutes v_inn_things v_inn_dreams v_inn_sleepers v_inn_listeners v_night_setting v_night_been z3 z4 z5 v_night_ways_rooms z6 z7 v_night_ways_steps v_night_how z8 v_night_passed z9 v_night_dreamOf z10 v_night_stateOf z11 v_night_roomOf z12 v_night_handOf z13 v_night_awake z14 v_night_thingIn z15 v_night_full z16 v_night_heardBy z17 z18 z19 z20 z21 z22 z23 z24 z25 z26 z27 z28 z29 z30 z31 z32 z33 z34 z35 z36 z37 z38 z39 z40 z41 z42 z43 z44 z45 z46 z47)) args s 0 0 A := ⟨_, rfl⟩
  rw [← hQ]
  unfold fX10_mark at hf
  refine lv_aload_n hx hb dX10_mark_0 rfl (lv_at hl 0 rfl) ?_
  obtain ⟨r_1, hc_1, hf⟩ := bd1 hf
  refine r_callVi (ws' := (wX10_mark E h h_reader h_inn h_chosen h_night h_marks h_notes h_casts h_inn_house h_inn_thingIn h_inn_full h_inn_states h_inn_bed h_inn_dreamOf h_inn_listensIn h_m0 h_m1 h_m2 h_night_ways h_night_how h_night_passed h_night_dreamOf h_night_stateOf h_night_roomOf h_night_handOf h_night_awake h_night_thingIn h_night_full h_night_heardBy h_m0_ways h_m0_how h_m0_passed h_m0_dreamOf h_m0_stateOf h_m0_roomOf h_m0_handOf h_m0_awake h_m0_thingIn h_m0_full h_m0_heardBy h_night_ways_steps h_m0_ways_steps h_m1_ways h_m1_how h_m1_passed h_m1_dreamOf h_m1_stateOf h_m1_roomOf h_m1_handOf h_m1_awake h_m1_thingIn h_m1_full h_m1_heardBy h_m1_ways_steps h_m2_ways h_m2_how h_m2_passed h_m2_dreamOf h_m2_stateOf h_m2_roomOf h_m2_handOf h_m2_awake h_m2_thingIn h_m2_full h_m2_heardBy h_m2_ways_steps v_marked v_refusal v_latestFault v_faultPlace v_inn_minutes v_inn_things v_inn_dreams v_inn_sleepers v_inn_listeners v_night_setting v_night_been v_m0_inn v_m0_setting v_m0_been v_night_ways_rooms v_m0_ways_rooms v_m0_ways_steps v_night_ways_steps v_night_how v_m0_how v_night_passed v_m0_passed v_night_dreamOf v_m0_dreamOf v_night_stateOf v_m0_stateOf v_night_roomOf v_m0_roomOf v_night_handOf v_m0_handOf v_night_awake v_m0_awake v_night_thingIn v_m0_thingIn v_night_full v_m0_full v_night_heardBy v_m0_heardBy v_m1_inn v_m1_setting v_m1_been v_m1_ways_rooms v_m1_ways_steps v_m1_how v_m1_passed v_m1_dreamOf v_m1_stateOf v_m1_roomOf v_m1_handOf v_m1_awake v_m1_thingIn v_m1_full v_m1_heardBy v_m2_inn v_m2_setting v_m2_been v_m2_ways_rooms v_m2_ways_steps v_m2_how v_m2_passed v_m2_dreamOf v_m2_stateOf v_m2_roomOf v_m2_handOf v_m2_awake v_m2_thingIn v_m2_full v_m2_heardBy)) (As := []) (rest := []) C (ctX10_isTold l E h h_reader h_inn h_chosen h_night h_marks h_notes h_casts h_inn_house h_inn_thingIn h_inn_full h_inn_states h_inn_bed h_inn_dreamOf h_inn_listensIn v_marked v_refusal v_latestFault v_faultPlace v_inn_minutes v_inn_things v_inn_dreams v_inn_sleepers v_inn_listeners N r_1 hc_1) ml_X10_170 ⟨Nat.le_of_ble_eq_true rfl, Nat.le_of_ble_eq_true rfl⟩ hP hD hS 0 rfl rfl rfl [0, 1] rfl rfl rfl rfl rfl hl.1 rfl (Nat.le_of_ble_eq_true rfl) ⟨Nat.zero_le _, Nat.zero_le _⟩ dX10_mark_1 ?_
  clear hP hD hS; intro H locs hP hD hS
  refine lv_if_ne (tgt := 13) hx hb dX10_mark_4 (by decide) (fun c_4 => ?_) (fun c_4 => ?_)
  · replace hf := it_f c_4 hf
    refine lv_aload_n hx hb dX10_mark_13 rfl (lv_at hl 0 rfl) ?_
    refine r_get C hP 0 rfl fl_X10_242 rfl dX10_mark_14 ?_
    refine lv_iconst (v := 3) hx hb dX10_mark_17 (by decide) ?_
    refine lv_icmp_lt (tgt := 27) hx hb dX10_mark_18 (by decide) (fun c_18 => ?_) (fun c_18 => ?_)
    · replace hf := it_t c_18 hf
      refine lv_aload_n hx hb dX10_mark_27 rfl (lv_at hl 0 rfl) ?_
      refine r_get C hP 0 rfl fl_X10_36 rfl dX10_mark_28 ?_
      refine lv_aload_n hx hb dX10_mark_31 rfl (lv_at hl 0 rfl) ?_
      refine r_get C hP 0 rfl fl_X10_242 rfl dX10_mark_32 ?_
      obtain ⟨hi_35, hf⟩ := gd_s hf
      refine r_ald3 C hP 2 rfl hi_35 dX10_mark_35 (fun c_35_0 => ?_) (fun c_35_0 c_35_1 => ?_) (fun c_35_0 c_35_1 => ?_)
      · replace hf := it_t c_35_0 hf
        refine lv_aload_n hx hb dX10_mark_36 rfl (lv_at hl 0 rfl) ?_
        refine r_get C hP 0 rfl fl_X10_32 rfl dX10_mark_37 ?_
        obtain ⟨v_m0_inn_40, v_m0_setting_40, v_m0_been_40, v_m0_ways_rooms_40, v_m0_ways_steps_40, v_m0_how_40, v_m0_passed_40, v_m0_dreamOf_40, v_m0_stateOf_40, v_m0_roomOf_40, v_m0_handOf_40, v_m0_awake_40, v_m0_thingIn_40, v_m0_full_40, v_m0_heardBy_40, hc_40, hf⟩ := bd15 hf
        refine r_callVv (ws' := (wX10_mark E h h_reader h_inn h_chosen h_night h_marks h_notes h_casts h_inn_house h_inn_thingIn h_inn_full h_inn_states h_inn_bed h_inn_dreamOf h_inn_listensIn h_m0 h_m1 h_m2 h_night_ways h_night_how h_night_passed h_night_dreamOf h_night_stateOf h_night_roomOf h_night_handOf h_night_awake h_night_thingIn h_night_full h_night_heardBy h_m0_ways h_m0_how h_m0_passed h_m0_dreamOf h_m0_stateOf h_m0_roomOf h_m0_handOf h_m0_awake h_m0_thingIn h_m0_full h_m0_heardBy h_night_ways_steps h_m0_ways_steps h_m1_ways h_m1_how h_m1_passed h_m1_dreamOf h_m1_stateOf h_m1_roomOf h_m1_handOf h_m1_awake h_m1_thingIn h_m1_full h_m1_heardBy h_m1_ways_steps h_m2_ways h_m2_how h_m2_passed h_m2_dreamOf h_m2_stateOf h_m2_roomOf h_m2_handOf h_m2_awake h_m2_thingIn h_m2_full h_m2_heardBy h_m2_ways_steps v_marked v_refusal v_latestFault v_faultPlace v_inn_minutes v_inn_things v_inn_dreams v_inn_sleepers v_inn_listeners v_night_setting v_night_been v_m0_inn_40 v_m0_setting_40 v_m0_been_40 v_night_ways_rooms v_m0_ways_rooms_40 v_m0_ways_steps_40 v_night_ways_steps v_night_how v_m0_how_40 v_night_passed v_m0_passed_40 v_night_dreamOf v_m0_dreamOf_40 v_night_stateOf v_m0_stateOf_40 v_night_roomOf v_m0_roomOf_40 v_night_handOf v_m0_handOf_40 v_night_awake v_m0_awake_40 v_night_thingIn v_m0_thingIn_40 v_night_full v_m0_full_40 v_night_heardBy v_m0_heardBy_40 v_m1_inn v_m1_setting v_m1_been v_m1_ways_rooms v_m1_ways_steps v_m1_how v_m1_passed v_m1_dreamOf v_m1_stateOf v_m1_roomOf v_m1_handOf v_m1_awake v_m1_thingIn v_m1_full v_m1_heardBy v_m2_inn v_m2_setting v_m2_been v_m2_ways_rooms v_m2_ways_steps v_m2_how v_m2_passed v_m2_dreamOf v_m2_stateOf v_m2_roomOf v_m2_handOf v_m2_awake v_m2_thingIn v_m2_full v_m2_heardBy)) (As := [.ref h_night]) (rest := []) C (ctX4_become l E h_night h_night_ways h_night_how h_night_passed h_night_dreamOf h_night_stateOf h_night_roomOf h_night_handOf h_night_awake h_night_thingIn h_night_full h_night_heardBy h_m0 h_m0_ways h_m0_how h_m0_passed h_m0_dreamOf h_m0_stateOf h_m0_roomOf h_m0_handOf h_m0_awake h_m0_thingIn h_m0_full h_m0_heardBy h_night_ways_steps h_m0_ways_steps (some h_inn) v_night_setting v_night_been v_m0_inn v_m0_setting v_m0_been v_night_ways_rooms v_m0_ways_rooms v_m0_ways_steps v_night_ways_steps v_night_how v_m0_how v_night_passed v_m0_passed v_night_dreamOf v_m0_dreamOf v_night_stateOf v_m0_stateOf v_night_roomOf v_m0_roomOf v_night_handOf v_m0_handOf v_night_awake v_m0_awake v_night_thingIn v_m0_thingIn v_night_full v_m0_full v_night_heardBy v_m0_heardBy N v_m0_inn_40 v_m0_setting_40 v_m0_been_40 v_m0_ways_rooms_40 v_m0_ways_steps_40 v_m0_how_40 v_m0_passed_40 v_m0_dreamOf_40 v_m0_stateOf_40 v_m0_roomOf_40 v_m0_handOf_40 v_m0_awake_40 v_m0_thingIn_40 v_m0_full_40 v_m0_heardBy_40 hc_40) ml_X10_245 ⟨Nat.le_of_ble_eq_true rfl, Nat.le_of_ble_eq_true rfl⟩ hP hD hS 4 rfl rfl rfl [3, 4, 5, 6, 7, 8, 9, 10, 11, 12, 13, 14, 15, 16, 17, 18, 19, 20, 21, 22, 23, 24, 25, 26, 27, 28] rfl rfl rfl rfl rfl hl.1 rfl (Nat.le_of_ble_eq_true rfl) ⟨Nat.zero_le _, Nat.zero_le _⟩ dX10_mark_40 ?_
        clear hP hD hS; intro H locs hP hD hS
        refine lv_aload_n hx hb dX10_mark_43 rfl (lv_at hl 0 rfl) ?_
        refine lv_dup hx hb dX10_mark_44 rfl ?_
        refine r_get C hP 0 rfl fl_X10_242 rfl dX10_mark_45 ?_
        refine lv_iconst (v := 1) hx hb dX10_mark_48 (by decide) ?_
        refine lv_iadd hx hb dX10_mark_49 ?_
        refine r_put (ws' := (wX10_mark E h h_reader h_inn h_chosen h_night h_marks h_notes h_casts h_inn_house h_inn_thingIn h_inn_full h_inn_states h_inn_bed h_inn_dreamOf h_inn_listensIn h_m0 h_m1 h_m2 h_night_ways h_night_how h_night_passed h_night_dreamOf h_night_stateOf h_night_roomOf h_night_handOf h_night_awake h_night_thingIn h_night_full h_night_heardBy h_m0_ways h_m0_how h_m0_passed h_m0_dreamOf h_m0_stateOf h_m0_roomOf h_m0_handOf h_m0_awake h_m0_thingIn h_m0_full h_m0_heardBy h_night_ways_steps h_m0_ways_steps h_m1_ways h_m1_how h_m1_passed h_m1_dreamOf h_m1_stateOf h_m1_roomOf h_m1_handOf h_m1_awake h_m1_thingIn h_m1_full h_m1_heardBy h_m1_ways_steps h_m2_ways h_m2_how h_m2_passed h_m2_dreamOf h_m2_stateOf h_m2_roomOf h_m2_handOf h_m2_awake h_m2_thingIn h_m2_full h_m2_heardBy h_m2_ways_steps (v_marked + 1) v_refusal v_latestFault v_faultPlace v_inn_minutes v_inn_things v_inn_dreams v_inn_sleepers v_inn_listeners v_night_setting v_night_been v_m0_inn_40 v_m0_setting_40 v_m0_been_40 v_night_ways_rooms v_m0_ways_rooms_40 v_m0_ways_steps_40 v_night_ways_steps v_night_how v_m0_how_40 v_night_passed v_m0_passed_40 v_night_dreamOf v_m0_dreamOf_40 v_night_stateOf v_m0_stateOf_40 v_night_roomOf v_m0_roomOf_40 v_night_handOf v_m0_handOf_40 v_night_awake v_m0_awake_40 v_night_thingIn v_m0_thingIn_40 v_night_full v_m0_full_40 v_night_heardBy v_m0_heardBy_40 v_m1_inn v_m1_setting v_m1_been v_m1_ways_rooms v_m1_ways_steps v_m1_how v_m1_passed v_m1_dreamOf v_m1_stateOf v_m1_roomOf v_m1_handOf v_m1_awake v_m1_thingIn v_m1_full v_m1_heardBy v_m2_inn v_m2_setting v_m2_been v_m2_ways_rooms v_m2_ways_steps v_m2_how v_m2_passed v_m2_dreamOf v_m2_stateOf v_m2_roomOf v_m2_handOf v_m2_awake v_m2_thingIn v_m2_full v_m2_heardBy)) C hP hD hS 0 rfl fl_X10_242 rfl rfl (by decide) rfl dX10_mark_50 ?_
        clear hP hD hS; intro H locs hP hD hS
        refine lv_aload_n hx hb dX10_mark_53 rfl (lv_at hl 0 rfl) ?_
        refine lv_aload_n hx hb dX10_mark_54 rfl (lv_at hl 0 rfl) ?_
        refine r_get C hP 0 rfl fl_X10_242 rfl dX10_mark_55 ?_
        refine lv_iconst (v := 1) hx hb dX10_mark_58 (by decide) ?_
        refine lv_isub hx hb dX10_mark_59 ?_
        obtain ⟨r_60, v_refusal_60, hc_60, hf⟩ := bd2 hf
        refine r_callVi (ws' := (wX10_mark E h h_reader h_inn h_chosen h_night h_marks h_notes h_casts h_inn_house h_inn_thingIn h_inn_full h_inn_states h_inn_bed h_inn_dreamOf h_inn_listensIn h_m0 h_m1 h_m2 h_night_ways h_night_how h_night_passed h_night_dreamOf h_night_stateOf h_night_roomOf h_night_handOf h_night_awake h_night_thingIn h_night_full h_night_heardBy h_m0_ways h_m0_how h_m0_passed h_m0_dreamOf h_m0_stateOf h_m0_roomOf h_m0_handOf h_m0_awake h_m0_thingIn h_m0_full h_m0_heardBy h_night_ways_steps h_m0_ways_steps h_m1_ways h_m1_how h_m1_passed h_m1_dreamOf h_m1_stateOf h_m1_roomOf h_m1_handOf h_m1_awake h_m1_thingIn h_m1_full h_m1_heardBy h_m1_ways_steps h_m2_ways h_m2_how h_m2_passed h_m2_dreamOf h_m2_stateOf h_m2_roomOf h_m2_handOf h_m2_awake h_m2_thingIn h_m2_full h_m2_heardBy h_m2_ways_steps (v_marked + 1) v_refusal_60 v_latestFault v_faultPlace v_inn_minutes v_inn_things v_inn_dreams v_inn_sleepers v_inn_listeners v_night_setting v_night_been v_m0_inn_40 v_m0_setting_40 v_m0_been_40 v_night_ways_rooms v_m0_ways_rooms_40 v_m0_ways_steps_40 v_night_ways_steps v_night_how v_m0_how_40 v_night_passed v_m0_passed_40 v_night_dreamOf v_m0_dreamOf_40 v_night_stateOf v_m0_stateOf_40 v_night_roomOf v_m0_roomOf_40 v_night_handOf v_m0_handOf_40 v_night_awake v_m0_awake_40 v_night_thingIn v_m0_thingIn_40 v_night_full v_m0_full_40 v_night_heardBy v_m0_heardBy_40 v_m1_inn v_m1_setting v_m1_been v_m1_ways_rooms v_m1_ways_steps v_m1_how v_m1_passed v_m1_dreamOf v_m1_stateOf v_m1_roomOf v_m1_handOf v_m1_awake v_m1_thingIn v_m1_full v_m1_heardBy v_m2_inn v_m2_setting v_m2_been v_m2_ways_rooms v_m2_ways_steps v_m2_how v_m2_passed v_m2_dreamOf v_m2_stateOf v_m2_roomOf v_m2_handOf v_m2_awake v_m2_thingIn v_m2_full v_m2_heardBy)) (As := [.int ((v_marked + 1) - 1)]) (rest := []) C (ctX10_answer l E h h_reader h_inn h_chosen h_night h_marks h_notes h_casts (v_marked + 1) v_refusal v_latestFault v_faultPlace N ((v_marked + 1) - 1) r_60 v_refusal_60 hc_60) ml_X10_95 ⟨Nat.le_of_ble_eq_true rfl, Nat.le_of_ble_eq_true rfl⟩ hP hD hS 0 rfl rfl rfl [0] rfl rfl rfl rfl rfl hl.1 rfl (Nat.le_of_ble_eq_true rfl) ⟨Nat.zero_le _, Nat.zero_le _⟩ dX10_mark_60 ?_
        clear hP hD hS; intro H locs hP hD hS
        cases hf
        rw [hQ]
        exact r_iret C hr hP hD hS rfl dX10_mark_63
      · replace hf := it_t c_35_1 (it_f c_35_0 hf)
        refine lv_aload_n hx hb dX10_mark_36 rfl (lv_at hl 0 rfl) ?_
        refine r_get C hP 0 rfl fl_X10_32 rfl dX10_mark_37 ?_
        obtain ⟨v_m1_inn_40, v_m1_setting_40, v_m1_been_40, v_m1_ways_rooms_40, v_m1_ways_steps_40, v_m1_how_40, v_m1_passed_40, v_m1_dreamOf_40, v_m1_stateOf_40, v_m1_roomOf_40, v_m1_handOf_40, v_m1_awake_40, v_m1_thingIn_40, v_m1_full_40, v_m1_heardBy_40, hc_40, hf⟩ := bd15 hf
        refine r_callVv (ws' := (wX10_mark E h h_reader h_inn h_chosen h_night h_marks h_notes h_casts h_inn_house h_inn_thingIn h_inn_full h_inn_states h_inn_bed h_inn_dreamOf h_inn_listensIn h_m0 h_m1 h_m2 h_night_ways h_night_how h_night_passed h_night_dreamOf h_night_stateOf h_night_roomOf h_night_handOf h_night_awake h_night_thingIn h_night_full h_night_heardBy h_m0_ways h_m0_how h_m0_passed h_m0_dreamOf h_m0_stateOf h_m0_roomOf h_m0_handOf h_m0_awake h_m0_thingIn h_m0_full h_m0_heardBy h_night_ways_steps h_m0_ways_steps h_m1_ways h_m1_how h_m1_passed h_m1_dreamOf h_m1_stateOf h_m1_roomOf h_m1_handOf h_m1_awake h_m1_thingIn h_m1_full h_m1_heardBy h_m1_ways_steps h_m2_ways h_m2_how h_m2_passed h_m2_dreamOf h_m2_stateOf h_m2_roomOf h_m2_handOf h_m2_awake h_m2_thingIn h_m2_full h_m2_heardBy h_m2_ways_steps v_marked v_refusal v_latestFault v_faultPlace v_inn_minutes v_inn_things v_inn_dreams v_inn_sleepers v_inn_listeners v_night_setting v_night_been v_m0_inn v_m0_setting v_m0_been v_night_ways_rooms v_m0_ways_rooms v_m0_ways_steps v_night_ways_steps v_night_how v_m0_how v_night_passed v_m0_passed v_night_dreamOf v_m0_dreamOf v_night_stateOf v_m0_stateOf v_night_roomOf v_m0_roomOf v_night_handOf v_m0_handOf v_night_awake v_m0_awake v_night_thingIn v_m0_thingIn v_night_full v_m0_full v_night_heardBy v_m0_heardBy v_m1_inn_40 v_m1_setting_40 v_m1_been_40 v_m1_ways_rooms_40 v_m1_ways_steps_40 v_m1_how_40 v_m1_passed_40 v_m1_dreamOf_40 v_m1_stateOf_40 v_m1_roomOf_40 v_m1_handOf_40 v_m1_awake_40 v_m1_thingIn_40 v_m1_full_40 v_m1_heardBy_40 v_m2_inn v_m2_setting v_m2_been v_m2_ways_rooms v_m2_ways_steps v_m2_how v_m2_passed v_m2_dreamOf v_m2_stateOf v_m2_roomOf v_m2_handOf v_m2_awake v_m2_thingIn v_m2_full v_m2_heardBy)) (As := [.ref h_night]) (rest := []) C (ctX4_become l E h_night h_night_ways h_night_how h_night_passed h_night_dreamOf h_night_stateOf h_night_roomOf h_night_handOf h_night_awake h_night_thingIn h_night_full h_night_heardBy h_m1 h_m1_ways h_m1_how h_m1_passed h_m1_dreamOf h_m1_stateOf h_m1_roomOf h_m1_handOf h_m1_awake h_m1_thingIn h_m1_full h_m1_heardBy h_night_ways_steps h_m1_ways_steps (some h_inn) v_night_setting v_night_been v_m1_inn v_m1_setting v_m1_been v_night_ways_rooms v_m1_ways_rooms v_m1_ways_steps v_night_ways_steps v_night_how v_m1_how v_night_passed v_m1_passed v_night_dreamOf v_m1_dreamOf v_night_stateOf v_m1_stateOf v_night_roomOf v_m1_roomOf v_night_handOf v_m1_handOf v_night_awake v_m1_awake v_night_thingIn v_m1_thingIn v_night_full v_m1_full v_night_heardBy v_m1_heardBy N v_m1_inn_40 v_m1_setting_40 v_m1_been_40 v_m1_ways_rooms_40 v_m1_ways_steps_40 v_m1_how_40 v_m1_passed_40 v_m1_dreamOf_40 v_m1_stateOf_40 v_m1_roomOf_40 v_m1_handOf_40 v_m1_awake_40 v_m1_thingIn_40 v_m1_full_40 v_m1_heardBy_40 hc_40) ml_X10_245 ⟨Nat.le_of_ble_eq_true rfl, Nat.le_of_ble_eq_true rfl⟩ hP hD hS 29 rfl rfl rfl [3, 29, 5, 30, 31, 8, 9, 32, 11, 33, 13, 34, 15, 35, 17, 36, 19, 37, 21, 38, 23, 39, 25, 40, 27, 41] rfl rfl rfl rfl rfl hl.1 rfl (Nat.le_of_ble_eq_true rfl) ⟨Nat.zero_le _, Nat.zero_le _⟩ dX10_mark_40 ?_
        clear hP hD hS; intro H locs hP hD hS
        refine lv_aload_n hx hb dX10_mark_43 rfl (lv_at hl 0 rfl) ?_
        refine lv_dup hx hb dX10_mark_44 rfl ?_
        refine r_get C hP 0 rfl fl_X10_242 rfl dX10_mark_45 ?_
        refine lv_iconst (v := 1) hx hb dX10_mark_48 (by decide) ?_
        refine lv_iadd hx hb dX10_mark_49 ?_
        refine r_put (ws' := (wX10_mark E h h_reader h_inn h_chosen h_night h_marks h_notes h_casts h_inn_house h_inn_thingIn h_inn_full h_inn_states h_inn_bed h_inn_dreamOf h_inn_listensIn h_m0 h_m1 h_m2 h_night_ways h_night_how h_night_passed h_night_dreamOf h_night_stateOf h_night_roomOf h_night_handOf h_night_awake h_night_thingIn h_night_full h_night_heardBy h_m0_ways h_m0_how h_m0_passed h_m0_dreamOf h_m0_stateOf h_m0_roomOf h_m0_handOf h_m0_awake h_m0_thingIn h_m0_full h_m0_heardBy h_night_ways_steps h_m0_ways_steps h_m1_ways h_m1_how h_m1_passed h_m1_dreamOf h_m1_stateOf h_m1_roomOf h_m1_handOf h_m1_awake h_m1_thingIn h_m1_full h_m1_heardBy h_m1_ways_steps h_m2_ways h_m2_how h_m2_passed h_m2_dreamOf h_m2_stateOf h_m2_roomOf h_m2_handOf h_m2_awake h_m2_thingIn h_m2_full h_m2_heardBy h_m2_ways_steps (v_marked + 1) v_refusal v_latestFault v_faultPlace v_inn_minutes v_inn_things v_inn_dreams v_inn_sleepers v_inn_listeners v_night_setting v_night_been v_m0_inn v_m0_setting v_m0_been v_night_ways_rooms v_m0_ways_rooms v_m0_ways_steps v_night_ways_steps v_night_how v_m0_how v_night_passed v_m0_passed v_night_dreamOf v_m0_dreamOf v_night_stateOf v_m0_stateOf v_night_roomOf v_m0_roomOf v_night_handOf v_m0_handOf v_night_awake v_m0_awake v_night_thingIn v_m0_thingIn v_night_full v_m0_full v_night_heardBy v_m0_heardBy v_m1_inn_40 v_m1_setting_40 v_m1_been_40 v_m1_ways_rooms_40 v_m1_ways_steps_40 v_m1_how_40 v_m1_passed_40 v_m1_dreamOf_40 v_m1_stateOf_40 v_m1_roomOf_40 v_m1_handOf_40 v_m1_awake_40 v_m1_thingIn_40 v_m1_full_40 v_m1_heardBy_40 v_m2_inn v_m2_setting v_m2_been v_m2_ways_rooms v_m2_ways_steps v_m2_how v_m2_passed v_m2_dreamOf v_m2_stateOf v_m2_roomOf v_m2_handOf v_m2_awake v_m2_thingIn v_m2_full v_m2_heardBy)) C hP hD hS 0 rfl fl_X10_242 rfl rfl (by decide) rfl dX10_mark_50 ?_
        clear hP hD hS; intro H locs hP hD hS
        refine lv_aload_n hx hb dX10_mark_53 rfl (lv_at hl 0 rfl) ?_
        refine lv_aload_n hx hb dX10_mark_54 rfl (lv_at hl 0 rfl) ?_
        refine r_get C hP 0 rfl fl_X10_242 rfl dX10_mark_55 ?_
        refine lv_iconst (v := 1) hx hb dX10_mark_58 (by decide) ?_
        refine lv_isub hx hb dX10_mark_59 ?_
        obtain ⟨r_60, v_refusal_60, hc_60, hf⟩ := bd2 hf
        refine r_callVi (ws' := (wX10_mark E h h_reader h_inn h_chosen h_night h_marks h_notes h_casts h_inn_house h_inn_thingIn h_inn_full h_inn_states h_inn_bed h_inn_dreamOf h_inn_listensIn h_m0 h_m1 h_m2 h_night_ways h_night_how h_night_passed h_night_dreamOf h_night_stateOf h_night_roomOf h_night_handOf h_night_awake h_night_thingIn h_night_full h_night_heardBy h_m0_ways h_m0_how h_m0_passed h_m0_dreamOf h_m0_stateOf h_m0_roomOf h_m0_handOf h_m0_awake h_m0_thingIn h_m0_full h_m0_heardBy h_night_ways_steps h_m0_ways_steps h_m1_ways h_m1_how h_m1_passed h_m1_dreamOf h_m1_stateOf h_m1_roomOf h_m1_handOf h_m1_awake h_m1_thingIn h_m1_full h_m1_heardBy h_m1_ways_steps h_m2_ways h_m2_how h_m2_passed h_m2_dreamOf h_m2_stateOf h_m2_roomOf h_m2_handOf h_m2_awake h_m2_thingIn h_m2_full h_m2_heardBy h_m2_ways_steps (v_marked + 1) v_refusal_60 v_latestFault v_faultPlace v_inn_minutes v_inn_things v_inn_dreams v_inn_sleepers v_inn_listeners v_night_setting v_night_been v_m0_inn v_m0_setting v_m0_been v_night_ways_rooms v_m0_ways_rooms v_m0_ways_steps v_night_ways_steps v_night_how v_m0_how v_night_passed v_m0_passed v_night_dreamOf v_m0_dreamOf v_night_stateOf v_m0_stateOf v_night_roomOf v_m0_roomOf v_night_handOf v_m0_handOf v_night_awake v_m0_awake v_night_thingIn v_m0_thingIn v_night_full v_m0_full v_night_heardBy v_m0_heardBy v_m1_inn_40 v_m1_setting_40 v_m1_been_40 v_m1_ways_rooms_40 v_m1_ways_steps_40 v_m1_how_40 v_m1_passed_40 v_m1_dreamOf_40 v_m1_stateOf_40 v_m1_roomOf_40 v_m1_handOf_40 v_m1_awake_40 v_m1_thingIn_40 v_m1_full_40 v_m1_heardBy_40 v_m2_inn v_m2_setting v_m2_been v_m2_ways_rooms v_m2_ways_steps v_m2_how v_m2_passed v_m2_dreamOf v_m2_stateOf v_m2_roomOf v_m2_handOf v_m2_awake v_m2_thingIn v_m2_full v_m2_heardBy)) (As := [.int ((v_marked + 1) - 1)]) (rest := []) C (ctX10_answer l E h h_reader h_inn h_chosen h_night h_marks h_notes h_casts (v_marked + 1) v_refusal v_latestFault v_faultPlace N ((v_marked + 1) - 1) r_60 v_refusal_60 hc_60) ml_X10_95 ⟨Nat.le_of_ble_eq_true rfl, Nat.le_of_ble_eq_true rfl⟩ hP hD hS 0 rfl rfl rfl [0] rfl rfl rfl rfl rfl hl.1 rfl (Nat.le_of_ble_eq_true rfl) ⟨Nat.zero_le _, Nat.zero_le _⟩ dX10_mark_60 ?_
        clear hP hD hS; intro H locs hP hD hS
        cases hf
        rw [hQ]
        exact r_iret C hr hP hD hS rfl dX10_mark_63
      · replace hf := it_f c_35_1 (it_f c_35_0 hf)
        refine lv_aload_n hx hb dX10_mark_36 rfl (lv_at hl 0 rfl) ?_
        refine r_get C hP 0 rfl fl_X10_32 rfl dX10_mark_37 ?_
        obtain ⟨v_m2_inn_40, v_m2_setting_40, v_m2_been_40, v_m2_ways_rooms_40, v_m2_ways_steps_40, v_m2_how_40, v_m2_passed_40, v_m2_dreamOf_40, v_m2_stateOf_40, v_m2_roomOf_40, v_m2_handOf_40, v_m2_awake_40, v_m2_thingIn_40, v_m2_full_40, v_m2_heardBy_40, hc_40, hf⟩ := bd15 hf
        refine r_callVv (ws' := (wX10_mark E h h_reader h_inn h_chosen h_night h_marks h_notes h_casts h_inn_house h_inn_thingIn h_inn_full h_inn_states h_inn_bed h_inn_dreamOf h_inn_listensIn h_m0 h_m1 h_m2 h_night_ways h_night_how h_night_passed h_night_dreamOf h_night_stateOf h_night_roomOf h_night_handOf h_night_awake h_night_thingIn h_night_full h_night_heardBy h_m0_ways h_m0_how h_m0_passed h_m0_dreamOf h_m0_stateOf h_m0_roomOf h_m0_handOf h_m0_awake h_m0_thingIn h_m0_full h_m0_heardBy h_night_ways_steps h_m0_ways_steps h_m1_ways h_m1_how h_m1_passed h_m1_dreamOf h_m1_stateOf h_m1_roomOf h_m1_handOf h_m1_awake h_m1_thingIn h_m1_full h_m1_heardBy h_m1_ways_steps h_m2_ways h_m2_how h_m2_passed h_m2_dreamOf h_m2_stateOf h_m2_roomOf h_m2_handOf h_m2_awake h_m2_thingIn h_m2_full h_m2_heardBy h_m2_ways_steps v_marked v_refusal v_latestFault v_faultPlace v_inn_minutes v_inn_things v_inn_dreams v_inn_sleepers v_inn_listeners v_night_setting v_night_been v_m0_inn v_m0_setting v_m0_been v_night_ways_rooms v_m0_ways_rooms v_m0_ways_steps v_night_ways_steps v_night_how v_m0_how v_night_passed v_m0_passed v_night_dreamOf v_m0_dreamOf v_night_stateOf v_m0_stateOf v_night_roomOf v_m0_roomOf v_night_handOf v_m0_handOf v_night_awake v_m0_awake v_night_thingIn v_m0_thingIn v_night_full v_m0_full v_night_heardBy v_m0_heardBy v_m1_inn v_m1_setting v_m1_been v_m1_ways_rooms v_m1_ways_steps v_m1_how v_m1_passed v_m1_dreamOf v_m1_stateOf v_m1_roomOf v_m1_handOf v_m1_awake v_m1_thingIn v_m1_full v_m1_heardBy v_m2_inn_40 v_m2_setting_40 v_m2_been_40 v_m2_ways_rooms_40 v_m2_ways_steps_40 v_m2_how_40 v_m2_passed_40 v_m2_dreamOf_40 v_m2_stateOf_40 v_m2_roomOf_40 v_m2_handOf_40 v_m2_awake_40 v_m2_thingIn_40 v_m2_full_40 v_m2_heardBy_40)) (As := [.ref h_night]) (rest := []) C (ctX4_become l E h_night h_night_ways h_night_how h_night_passed h_night_dreamOf h_night_stateOf h_night_roomOf h_night_handOf h_night_awake h_night_thingIn h_night_full h_night_heardBy h_m2 h_m2_ways h_m2_how h_m2_passed h_m2_dreamOf h_m2_stateOf h_m2_roomOf h_m2_handOf h_m2_awake h_m2_thingIn h_m2_full h_m2_heardBy h_night_ways_steps h_m2_ways_steps (some h_inn) v_night_setting v_night_been v_m2_inn v_m2_setting v_m2_been v_night_ways_rooms v_m2_ways_rooms v_m2_ways_steps v_night_ways_steps v_night_how v_m2_how v_night_passed v_m2_passed v_night_dreamOf v_m2_dreamOf v_night_stateOf v_m2_stateOf v_night_roomOf v_m2_roomOf v_night_handOf v_m2_handOf v_night_awake v_m2_awake v_night_thingIn v_m2_thingIn v_night_full v_m2_full v_night_heardBy v_m2_heardBy N v_m2_inn_40 v_m2_setting_40 v_m2_been_40 v_m2_ways_rooms_40 v_m2_ways_steps_40 v_m2_how_40 v_m2_passed_40 v_m2_dreamOf_40 v_m2_stateOf_40 v_m2_roomOf_40 v_m2_handOf_40 v_m2_awake_40 v_m2_thingIn_40 v_m2_full_40 v_m2_heardBy_40 hc_40) ml_X10_245 ⟨Nat.le_of_ble_eq_true rfl, Nat.le_of_ble_eq_true rfl⟩ hP hD hS 42 rfl rfl rfl [3, 42, 5, 43, 44, 8, 9, 45, 11, 46, 13, 47, 15, 48, 17, 49, 19, 50, 21, 51, 23, 52, 25, 53, 27, 54] rfl rfl rfl rfl rfl hl.1 rfl (Nat.le_of_ble_eq_true rfl) ⟨Nat.zero_le _, Nat.zero_le _⟩ dX10_mark_40 ?_
        clear hP hD hS; intro H locs hP hD hS
        refine lv_aload_n hx hb dX10_mark_43 rfl (lv_at hl 0 rfl) ?_
        refine lv_dup hx hb dX10_mark_44 rfl ?_
        refine r_get C hP 0 rfl fl_X10_242 rfl dX10_mark_45 ?_
        refine lv_iconst (v := 1) hx hb dX10_mark_48 (by decide) ?_
        refine lv_iadd hx hb dX10_mark_49 ?_
        refine r_put (ws' := (wX10_mark E h h_reader h_inn h_chosen h_night h_marks h_notes h_casts h_inn_house h_inn_thingIn h_inn_full h_inn_states h_inn_bed h_inn_dreamOf h_inn_listensIn h_m0 h_m1 h_m2 h_night_ways h_night_how h_night_passed h_night_dreamOf h_night_stateOf h_night_roomOf h_night_handOf h_night_awake h_night_thingIn h_night_full h_night_heardBy h_m0_ways h_m0_how h_m0_passed h_m0_dreamOf h_m0_stateOf h_m0_roomOf h_m0_handOf h_m0_awake h_m0_thingIn h_m0_full h_m0_heardBy h_night_ways_steps h_m0_ways_steps h_m1_ways h_m1_how h_m1_passed h_m1_dreamOf h_m1_stateOf h_m1_roomOf h_m1_handOf h_m1_awake h_m1_thingIn h_m1_full h_m1_heardBy h_m1_ways_steps h_m2_ways h_m2_how h_m2_passed h_m2_dreamOf h_m2_stateOf h_m2_roomOf h_m2_handOf h_m2_awake h_m2_thingIn h_m2_full h_m2_heardBy h_m2_ways_steps (v_marked + 1) v_refusal v_latestFault v_faultPlace v_inn_minutes v_inn_things v_inn_dreams v_inn_sleepers v_inn_listeners v_night_setting v_night_been v_m0_inn v_m0_setting v_m0_been v_night_ways_rooms v_m0_ways_rooms v_m0_ways_steps v_night_ways_steps v_night_how v_m0_how v_night_passed v_m0_passed v_night_dreamOf v_m0_dreamOf v_night_stateOf v_m0_stateOf v_night_roomOf v_m0_roomOf v_night_handOf v_m0_handOf v_night_awake v_m0_awake v_night_thingIn v_m0_thingIn v_night_full v_m0_full v_night_heardBy v_m0_heardBy v_m1_inn v_m1_setting v_m1_been v_m1_ways_rooms v_m1_ways_steps v_m1_how v_m1_passed v_m1_dreamOf v_m1_stateOf v_m1_roomOf v_m1_handOf v_m1_awake v_m1_thingIn v_m1_full v_m1_heardBy v_m2_inn_40 v_m2_setting_40 v_m2_been_40 v_m2_ways_rooms_40 v_m2_ways_steps_40 v_m2_how_40 v_m2_passed_40 v_m2_dreamOf_40 v_m2_stateOf_40 v_m2_roomOf_40 v_m2_handOf_40 v_m2_awake_40 v_m2_thingIn_40 v_m2_full_40 v_m2_heardBy_40)) C hP hD hS 0 rfl fl_X10_242 rfl rfl (by decide) rfl dX10_mark_50 ?_
        clear hP hD hS; intro H locs hP hD hS
        refine lv_aload_n hx hb dX10_mark_53 rfl (lv_at hl 0 rfl) ?_
        refine lv_aload_n hx hb dX10_mark_54 rfl (lv_at hl 0 rfl) ?_
        refine r_get C hP 0 rfl fl_X10_242 rfl dX10_mark_55 ?_
        refine lv_iconst (v := 1) hx hb dX10_mark_58 (by decide) ?_
        refine lv_isub hx hb dX10_mark_59 ?_
        obtain ⟨r_60, v_refusal_60, hc_60, hf⟩ := bd2 hf
        refine r_callVi (ws' := (wX10_mark E h h_reader h_inn h_chosen h_night h_marks h_notes h_casts h_inn_house h_inn_thingIn h_inn_full h_inn_states h_inn_bed h_inn_dreamOf h_inn_listensIn h_m0 h_m1 h_m2 h_night_ways h_night_how h_night_passed h_night_dreamOf h_night_stateOf h_night_roomOf h_night_handOf h_night_awake h_night_thingIn h_night_full h_night_heardBy h_m0_ways h_m0_how h_m0_passed h_m0_dreamOf h_m0_stateOf h_m0_roomOf h_m0_handOf h_m0_awake h_m0_thingIn h_m0_full h_m0_heardBy h_night_ways_steps h_m0_ways_steps h_m1_ways h_m1_how h_m1_passed h_m1_dreamOf h_m1_stateOf h_m1_roomOf h_m1_handOf h_m1_awake h_m1_thingIn h_m1_full h_m1_heardBy h_m1_ways_steps h_m2_ways h_m2_how h_m2_passed h_m2_dreamOf h_m2_stateOf h_m2_roomOf h_m2_handOf h_m2_awake h_m2_thingIn h_m2_full h_m2_heardBy h_m2_ways_steps (v_marked + 1) v_refusal_60 v_latestFault v_faultPlace v_inn_minutes v_inn_things v_inn_dreams v_inn_sleepers v_inn_listeners v_night_setting v_night_been v_m0_inn v_m0_setting v_m0_been v_night_ways_rooms v_m0_ways_rooms v_m0_ways_steps v_night_ways_steps v_night_how v_m0_how v_night_passed v_m0_passed v_night_dreamOf v_m0_dreamOf v_night_stateOf v_m0_stateOf v_night_roomOf v_m0_roomOf v_night_handOf v_m0_handOf v_night_awake v_m0_awake v_night_thingIn v_m0_thingIn v_night_full v_m0_full v_night_heardBy v_m0_heardBy v_m1_inn v_m1_setting v_m1_been v_m1_ways_rooms v_m1_ways_steps v_m1_how v_m1_passed v_m1_dreamOf v_m1_stateOf v_m1_roomOf v_m1_handOf v_m1_awake v_m1_thingIn v_m1_full v_m1_heardBy v_m2_inn_40 v_m2_setting_40 v_m2_been_40 v_m2_ways_rooms_40 v_m2_ways_steps_40 v_m2_how_40 v_m2_passed_40 v_m2_dreamOf_40 v_m2_stateOf_40 v_m2_roomOf_40 v_m2_handOf_40 v_m2_awake_40 v_m2_thingIn_40 v_m2_full_40 v_m2_heardBy_40)) (As := [.int ((v_marked + 1) - 1)]) (rest := []) C (ctX10_answer l E h h_reader h_inn h_chosen h_night h_marks h_notes h_casts (v_marked + 1) v_refusal v_latestFault v_faultPlace N ((v_marked + 1) - 1) r_60 v_refusal_60 hc_60) ml_X10_95 ⟨Nat.le_of_ble_eq_true rfl, Nat.le_of_ble_eq_true rfl⟩ hP hD hS 0 rfl rfl rfl [0] rfl rfl rfl rfl rfl hl.1 rfl (Nat.le_of_ble_eq_true rfl) ⟨Nat.zero_le _, Nat.zero_le _⟩ dX10_mark_60 ?_
        clear hP hD hS; intro H locs hP hD hS
        cases hf
        rw [hQ]
        exact r_iret C hr hP hD hS rfl dX10_mark_63
    · replace hf := it_f c_18 hf
      refine lv_aload_n hx hb dX10_mark_21 rfl (lv_at hl 0 rfl) ?_
      refine lv_iconst (v := 3) hx hb dX10_mark_22 (by decide) ?_
      obtain ⟨r_23, v_refusal_23, hc_23, hf⟩ := bd2 hf
      refine r_callVi (ws' := (wX10_mark E h h_reader h_inn h_chosen h_night h_marks h_notes h_casts h_inn_house h_inn_thingIn h_inn_full h_inn_states h_inn_bed h_inn_dreamOf h_inn_listensIn h_m0 h_m1 h_m2 h_night_ways h_night_how h_night_passed h_night_dreamOf h_night_stateOf h_night_roomOf h_night_handOf h_night_awake h_night_thingIn h_night_full h_night_heardBy h_m0_ways h_m0_how h_m0_passed h_m0_dreamOf h_m0_stateOf h_m0_roomOf h_m0_handOf h_m0_awake h_m0_thingIn h_m0_full h_m0_heardBy h_night_ways_steps h_m0_ways_steps h_m1_ways h_m1_how h_m1_passed h_m1_dreamOf h_m1_stateOf h_m1_roomOf h_m1_handOf h_m1_awake h_m1_thingIn h_m1_full h_m1_heardBy h_m1_ways_steps h_m2_ways h_m2_how h_m2_passed h_m2_dreamOf h_m2_stateOf h_m2_roomOf h_m2_handOf h_m2_awake h_m2_thingIn h_m2_full h_m2_heardBy h_m2_ways_steps v_marked v_refusal_23 v_latestFault v_faultPlace v_inn_minutes v_inn_things v_inn_dreams v_inn_sleepers v_inn_listeners v_night_setting v_night_been v_m0_inn v_m0_setting v_m0_been v_night_ways_rooms v_m0_ways_rooms v_m0_ways_steps v_night_ways_steps v_night_how v_m0_how v_night_passed v_m0_passed v_night_dreamOf v_m0_dreamOf v_night_stateOf v_m0_stateOf v_night_roomOf v_m0_roomOf v_night_handOf v_m0_handOf v_night_awake v_m0_awake v_night_thingIn v_m0_thingIn v_night_full v_m0_full v_night_heardBy v_m0_heardBy v_m1_inn v_m1_setting v_m1_been v_m1_ways_rooms v_m1_ways_steps v_m1_how v_m1_passed v_m1_dreamOf v_m1_stateOf v_m1_roomOf v_m1_handOf v_m1_awake v_m1_thingIn v_m1_full v_m1_heardBy v_m2_inn v_m2_setting v_m2_been v_m2_ways_rooms v_m2_ways_steps v_m2_how v_m2_passed v_m2_dreamOf v_m2_stateOf v_m2_roomOf v_m2_handOf v_m2_awake v_m2_thingIn v_m2_full v_m2_heardBy)) (As := [.int 3]) (rest := []) C (ctX10_refuse l E h h_reader h_inn h_chosen h_night h_marks h_notes h_casts v_marked v_refusal v_latestFault v_faultPlace N 3 r_23 v_refusal_23 hc_23) ml_X10_68 ⟨Nat.le_of_ble_eq_true rfl, Nat.le_of_ble_eq_true rfl⟩ hP hD hS 0 rfl rfl rfl [0] rfl rfl rfl rfl rfl hl.1 rfl (Nat.le_of_ble_eq_true rfl) ⟨Nat.zero_le _, Nat.zero_le _⟩ dX10_mark_23 ?_
      clear hP hD hS; intro H locs hP hD hS
      cases hf
      rw [hQ]
      exact r_iret C hr hP hD hS rfl dX10_mark_26
  · replace hf := it_t c_4 hf
    refine lv_aload_n hx hb dX10_mark_7 rfl (lv_at hl 0 rfl) ?_
    refine lv_iconst (v := 1) hx hb dX10_mark_8 (by decide) ?_
    obtain ⟨r_9, v_refusal_9, hc_9, hf⟩ := bd2 hf
    refine r_callVi (ws' := (wX10_mark E h h_reader h_inn h_chosen h_night h_marks h_notes h_casts h_inn_house h_inn_thingIn h_inn_full h_inn_states h_inn_bed h_inn_dreamOf h_inn_listensIn h_m0 h_m1 h_m2 h_night_ways h_night_how h_night_passed h_night_dreamOf h_night_stateOf h_night_roomOf h_night_handOf h_night_awake h_night_thingIn h_night_full h_night_heardBy h_m0_ways h_m0_how h_m0_passed h_m0_dreamOf h_m0_stateOf h_m0_roomOf h_m0_handOf h_m0_awake h_m0_thingIn h_m0_full h_m0_heardBy h_night_ways_steps h_m0_ways_steps h_m1_ways h_m1_how h_m1_passed h_m1_dreamOf h_m1_stateOf h_m1_roomOf h_m1_handOf h_m1_awake h_m1_thingIn h_m1_full h_m1_heardBy h_m1_ways_steps h_m2_ways h_m2_how h_m2_passed h_m2_dreamOf h_m2_stateOf h_m2_roomOf h_m2_handOf h_m2_awake h_m2_thingIn h_m2_full h_m2_heardBy h_m2_ways_steps v_marked v_refusal_9 v_latestFault v_faultPlace v_inn_minutes v_inn_things v_inn_dreams v_inn_sleepers v_inn_listeners v_night_setting v_night_been v_m0_inn v_m0_setting v_m0_been v_night_ways_rooms v_m0_ways_rooms v_m0_ways_steps v_night_ways_steps v_night_how v_m0_how v_night_passed v_m0_passed v_night_dreamOf v_m0_dreamOf v_night_stateOf v_m0_stateOf v_night_roomOf v_m0_roomOf v_night_handOf v_m0_handOf v_night_awake v_m0_awake v_night_thingIn v_m0_thingIn v_night_full v_m0_full v_night_heardBy v_m0_heardBy v_m1_inn v_m1_setting v_m1_been v_m1_ways_rooms v_m1_ways_steps v_m1_how v_m1_passed v_m1_dreamOf v_m1_stateOf v_m1_roomOf v_m1_handOf v_m1_awake v_m1_thingIn v_m1_full v_m1_heardBy v_m2_inn v_m2_setting v_m2_been v_m2_ways_rooms v_m2_ways_steps v_m2_how v_m2_passed v_m2_dreamOf v_m2_stateOf v_m2_roomOf v_m2_handOf v_m2_awake v_m2_thingIn v_m2_full v_m2_heardBy)) (As := [.int 1]) (rest := []) C (ctX10_refuse l E h h_reader h_inn h_chosen h_night h_marks h_notes h_casts v_marked v_refusal v_latestFault v_faultPlace N 1 r_9 v_refusal_9 hc_9) ml_X10_68 ⟨Nat.le_of_ble_eq_true rfl, Nat.le_of_ble_eq_true rfl⟩ hP hD hS 0 rfl rfl rfl [0] rfl rfl rfl rfl rfl hl.1 rfl (Nat.le_of_ble_eq_true rfl) ⟨Nat.zero_le _, Nat.zero_le _⟩ dX10_mark_9 ?_
    clear hP hD hS; intro H locs hP hD hS
    cases hf
    rw [hQ]
    exact r_iret C hr hP hD hS rfl dX10_mark_12
def wX10_back (E : EN) (h h_reader h_inn h_chosen h_night h_marks h_notes h_casts h_m0 h_m1 h_m2 h_m0_ways h_m0_how h_m0_passed h_m0_dreamOf h_m0_stateOf h_m0_roomOf h_m0_handOf h_m0_awake h_m0_thingIn h_m0_full h_m0_heardBy h_night_ways h_night_how h_night_passed h_night_dreamOf h_night_stateOf h_night_roomOf h_night_handOf h_night_awake h_night_thingIn h_night_full h_night_heardBy h_m0_ways_steps h_night_ways_steps h_m1_ways h_m1_how h_m1_passed h_m1_dreamOf h_m1_stateOf h_m1_roomOf h_m1_handOf h_m1_awake h_m1_thingIn h_m1_full h_m1_heardBy h_m1_ways_steps h_m2_ways h_m2_how h_m2_passed h_m2_dreamOf h_m2_stateOf h_m2_roomOf h_m2_handOf h_m2_awake h_m2_thingIn h_m2_full h_m2_heardBy h_m2_ways_steps : Nat) (v_marked : Int32) (v_refusal : Int32) (v_latestFault : Int32) (v_faultPlace : Int32) (v_m0_inn : Option Nat) (v_m0_setting : Int32) (v_m0_been : Int32) (v_night_setting : Int32) (v_night_been : Int32) (v_m0_ways_rooms : Int32) (v_night_ways_rooms : Int32) (v_night_ways_steps : Nat → Int32) (v_m0_ways_steps : Nat → Int32) (v_m0_how : Nat → Int32) (v_night_how : Nat → Int32) (v_m0_passed : Nat → Int32) (v_night_passed : Nat → Int32) (v_m0_dreamOf : Nat → Int32) (v_night_dreamOf : Nat → Int32) (v_m0_stateOf : Nat → Int32) (v_night_stateOf : Nat → Int32) (v_m0_roomOf : Nat → Int32) (v_night_roomOf : Nat → Int32) (v_m0_handOf : Nat → Int32) (v_night_handOf : Nat → Int32) (v_m0_awake : Nat → Int32) (v_night_awake : Nat → Int32) (v_m0_thingIn : Nat → Int32) (v_night_thingIn : Nat → Int32) (v_m0_full : Nat → Int32) (v_night_full : Nat → Int32) (v_m0_heardBy : Nat → Int64) (v_night_heardBy : Nat → Int64) (v_m1_inn : Option Nat) (v_m1_setting : Int32) (v_m1_been : Int32) (v_m1_ways_rooms : Int32) (v_m1_ways_steps : Nat → Int32) (v_m1_how : Nat → Int32) (v_m1_passed : Nat → Int32) (v_m1_dreamOf : Nat → Int32) (v_m1_stateOf : Nat → Int32) (v_m1_roomOf : Nat → Int32) (v_m1_handOf : Nat → Int32) (v_m1_awake : Nat → Int32) (v_m1_thingIn : Nat → Int32) (v_m1_full : Nat → Int32) (v_m1_heardBy : Nat → Int64) (v_m2_inn : Option Nat) (v_m2_setting : Int32) (v_m2_been : Int32) (v_m2_ways_rooms : Int32) (v_m2_ways_steps : Nat → Int32) (v_m2_how : Nat → Int32) (v_m2_passed : Nat → Int32) (v_m2_dreamOf : Nat → Int32) (v_m2_stateOf : Nat → Int32) (v_m2_roomOf : Nat → Int32) (v_m2_handOf : Nat → Int32) (v_m2_awake : Nat → Int32) (v_m2_thingIn : Nat → Int32) (v_m2_full : Nat → Int32) (v_m2_heardBy : Nat → Int64) : va_W := [(h, .inr (9, [.ref h_reader, .ref h_inn, .ref h_chosen, .ref h_night, .ref h_marks, .int v_marked, .ref h_notes, .ref h_casts, .int v_refusal, .int v_latestFault, .int v_faultPlace])), (h_marks, aQ E 3 (mk3 h_m0 h_m1 h_m2)), (h_m0, .inr (4, [va_rf v_m0_inn, .int v_m0_setting, .int v_m0_been, .ref h_m0_ways, .ref h_m0_how, .ref h_m0_passed, .ref h_m0_dreamOf, .ref h_m0_stateOf, .ref h_m0_roomOf, .ref h_m0_handOf, .ref h_m0_awake, .ref h_m0_thingIn, .ref h_m0_full, .ref h_m0_heardBy])), (h_night, .inr (4, [.ref h_inn, .int v_night_setting, .int v_night_been, .ref h_night_ways, .ref h_night_how, .ref h_night_passed, .ref h_night_dreamOf, .ref h_night_stateOf, .ref h_night_roomOf, .ref h_night_handOf, .ref h_night_awake, .ref h_night_thingIn, .ref h_night_full, .ref h_night_heardBy])), (h_m0_ways, .inr (8, [.ref h_m0_ways_steps, .int v_m0_ways_rooms])), (h_night_ways, .inr (8, [.ref h_night_ways_steps, .int v_night_ways_rooms])), (h_night_ways_steps, aI E 64 v_night_ways_steps), (h_m0_ways_steps, aI E 64 v_m0_ways_steps), (h_m0_how, aI E 10 v_m0_how), (h_night_how, aI E 10 v_night_how), (h_m0_passed, aI E 10 v_m0_passed), (h_night_passed, aI E 10 v_night_passed), (h_m0_dreamOf, aI E 3 v_m0_dreamOf), (h_night_dreamOf, aI E 3 v_night_dreamOf), (h_m0_stateOf, aI E 3 v_m0_stateOf), (h_night_stateOf, aI E 3 v_night_stateOf), (h_m0_roomOf, aI E 3 v_m0_roomOf), (h_night_roomOf, aI E 3 v_night_roomOf), (h_m0_handOf, aI E 3 v_m0_handOf), (h_night_handOf, aI E 3 v_night_handOf), (h_m0_awake, aZ E 3 v_m0_awake), (h_night_awake, aZ E 3 v_night_awake), (h_m0_thingIn, aI E 4 v_m0_thingIn), (h_night_thingIn, aI E 4 v_night_thingIn), (h_m0_full, aZ E 4 v_m0_full), (h_night_full, aZ E 4 v_night_full), (h_m0_heardBy, aJ E 3 v_m0_heardBy), (h_night_heardBy, aJ E 3 v_night_heardBy), (h_m1, .inr (4, [va_rf v_m1_inn, .int v_m1_setting, .int v_m1_been, .ref h_m1_ways, .ref h_m1_how, .ref h_m1_passed, .ref h_m1_dreamOf, .ref h_m1_stateOf, .ref h_m1_roomOf, .ref h_m1_handOf, .ref h_m1_awake, .ref h_m1_thingIn, .ref h_m1_full, .ref h_m1_heardBy])), (h_m1_ways, .inr (8, [.ref h_m1_ways_steps, .int v_m1_ways_rooms])), (h_m1_ways_steps, aI E 64 v_m1_ways_steps), (h_m1_how, aI E 10 v_m1_how), (h_m1_passed, aI E 10 v_m1_passed), (h_m1_dreamOf, aI E 3 v_m1_dreamOf), (h_m1_stateOf, aI E 3 v_m1_stateOf), (h_m1_roomOf, aI E 3 v_m1_roomOf), (h_m1_handOf, aI E 3 v_m1_handOf), (h_m1_awake, aZ E 3 v_m1_awake), (h_m1_thingIn, aI E 4 v_m1_thingIn), (h_m1_full, aZ E 4 v_m1_full), (h_m1_heardBy, aJ E 3 v_m1_heardBy), (h_m2, .inr (4, [va_rf v_m2_inn, .int v_m2_setting, .int v_m2_been, .ref h_m2_ways, .ref h_m2_how, .ref h_m2_passed, .ref h_m2_dreamOf, .ref h_m2_stateOf, .ref h_m2_roomOf, .ref h_m2_handOf, .ref h_m2_awake, .ref h_m2_thingIn, .ref h_m2_full, .ref h_m2_heardBy])), (h_m2_ways, .inr (8, [.ref h_m2_ways_steps, .int v_m2_ways_rooms])), (h_m2_ways_steps, aI E 64 v_m2_ways_steps), (h_m2_how, aI E 10 v_m2_how), (h_m2_passed, aI E 10 v_m2_passed), (h_m2_dreamOf, aI E 3 v_m2_dreamOf), (h_m2_stateOf, aI E 3 v_m2_stateOf), (h_m2_roomOf, aI E 3 v_m2_roomOf), (h_m2_handOf, aI E 3 v_m2_handOf), (h_m2_awake, aZ E 3 v_m2_awake), (h_m2_thingIn, aI E 4 v_m2_thingIn), (h_m2_full, aZ E 4 v_m2_full), (h_m2_heardBy, aJ E 3 v_m2_heardBy)]
def fX10_back (N : Nat) (p0 : Int32) (v_marked : Int32) (v_m0_inn : Option Nat) (v_m0_setting : Int32) (v_m0_been : Int32) (v_night_setting : Int32) (v_night_been : Int32) (v_m0_ways_rooms : Int32) (v_night_ways_rooms : Int32) (v_night_ways_steps : Nat → Int32) (v_m0_ways_steps : Nat → Int32) (v_m0_how : Nat → Int32) (v_night_how : Nat → Int32) (v_m0_passed : Nat → Int32) (v_night_passed : Nat → Int32) (v_m0_dreamOf : Nat → Int32) (v_night_dreamOf : Nat → Int32) (v_m0_stateOf : Nat → Int32) (v_night_stateOf : Nat → Int32) (v_m0_roomOf : Nat → Int32) (v_night_roomOf : Nat → Int32) (v_m0_handOf : Nat → Int32) (v_night_handOf : Nat → Int32) (v_m0_awake : Nat → Int32) (v_night_awake : Nat → Int32) (v_m0_thingIn : Nat → Int32) (v_night_thingIn : Nat → Int32) (v_m0_full : Nat → Int32) (v_night_full : Nat → Int32) (v_m0_heardBy : Nat → Int64) (v_night_heardBy : Nat → Int64) (v_m1_inn : Option Nat) (v_m1_setting : Int32) (v_m1_been : Int32) (v_m1_ways_rooms : Int32) (v_m1_ways_steps : Nat → Int32) (v_m1_how : Nat → Int32) (v_m1_passed : Nat → Int32) (v_m1_dreamOf : Nat → Int32) (v_m1_stateOf : Nat → Int32) (v_m1_roomOf : Nat → Int32) (v_m1_handOf : Nat → Int32) (v_m1_awake : Nat → Int32) (v_m1_thingIn : Nat → Int32) (v_m1_full : Nat → Int32) (v_m1_heardBy : Nat → Int64) (v_m2_inn : Option Nat) (v_m2_setting : Int32) (v_m2_been : Int32) (v_m2_ways_rooms : Int32) (v_m2_ways_steps : Nat → Int32) (v_m2_how : Nat → Int32) (v_m2_passed : Nat → Int32) (v_m2_dreamOf : Nat → Int32) (v_m2_stateOf : Nat → Int32) (v_m2_roomOf : Nat → Int32) (v_m2_handOf : Nat → Int32) (v_m2_awake : Nat → Int32) (v_m2_thingIn : Nat → Int32) (v_m2_full : Nat → Int32) (v_m2_heardBy : Nat → Int64) (h_inn : Nat) : Option (Int32 × Int32 × Int32 × Int32 × Int32 × (Nat → Int32) × (Nat → Int32) × (Nat → Int32) × (Nat → Int32) × (Nat → Int32) × (Nat → Int32) × (Nat → Int32) × (Nat → Int32) × (Nat → Int32) × (Nat → Int32) × (Nat → Int64) × Option Nat) := (fX10_isBelow N p0 v_marked).bind (un1 fun (r_5 : Int32) => if r_5 = 0 then ((fX10_deny N 1).bind (un2 fun (r_13 : Int32) (v_refusal_13 : Int32) => zg r_13 (some (r_13, v_refusal_13, v_night_setting, v_night_been, v_night_ways_rooms, v_night_ways_steps, v_night_how, v_night_passed, v_night_dreamOf, v_night_stateOf, v_night_roomOf, v_night_handOf, v_night_awake, v_night_thingIn, v_night_full, v_night_heardBy, (some h_inn)))) else (gd p0 3 (if p0 = 0 then ((fX4_become N v_m0_inn v_m0_setting v_m0_been v_m0_ways_rooms v_night_ways_steps v_m0_ways_steps v_m0_how v_night_how v_m0_passed v_night_passed v_m0_dreamOf v_night_dreamOf v_m0_stateOf v_night_stateOf v_m0_roomOf v_night_roomOf v_m0_handOf v_night_handOf v_m0_awake v_night_awake v_m0_thingIn v_night_thingIn v_m0_full v_night_full v_m0_heardBy v_night_heardBy).bind (un15 fun (x_27 : Option Nat) (v_night_setting_27 : Int32) (v_night_been_27 : Int32) (v_night_ways_rooms_27 : Int32) (v_night_ways_steps_27 : Nat → Int32) (v_night_how_27 : Nat → Int32) (v_night_passed_27 : Nat → Int32) (v_night_dreamOf_27 : Nat → Int32) (v_night_stateOf_27 : Nat → Int32) (v_night_roomOf_27 : Nat → Int32) (v_night_handOf_27 : Nat → Int32) (v_night_awake_27 : Nat → Int32) (v_night_thingIn_27 : Nat → Int32) (v_night_full_27 : Nat → Int32) (v_night_heardBy_27 : Nat → Int64) => (fX10_agree N).bind (un2 fun (r_31 : Int32) (v_refusal_31 : Int32) => zg r_31 (some (r_31, v_refusal_31, v_night_setting_27, v_night_been_27, v_night_ways_rooms_27, v_night_ways_steps_27, v_night_how_27, v_night_passed_27, v_night_dreamOf_27, v_night_stateOf_27, v_night_roomOf_27, v_night_handOf_27, v_night_awake_27, v_night_thingIn_27, v_night_full_27, v_night_heardBy_27, x_27)))) else (if p0 = 1 then ((fX4_become N v_m1_inn v_m1_setting v_m1_been v_m1_ways_rooms v_night_ways_steps v_m1_ways_steps v_m1_how v_night_how v_m1_passed v_night_passed v_m1_dreamOf v_night_dreamOf v_m1_stateOf v_night_stateOf v_m1_roomOf v_night_roomOf v_m1_handOf v_night_handOf v_m1_awake v_night_awake v_m1_thingIn v_night_thingIn v_m1_full v_night_full v_m1_heardBy v_night_heardBy).bind (un15 fun (x_27 : Option Nat) (v_night_setting_27 : Int32) (v_night_been_27 : Int32) (v_night_ways_rooms_27 : Int32) (v_night_ways_steps_27 : Nat → Int32) (v_night_how_27 : Nat → Int32) (v_night_passed_27 : Nat → Int32) (v_night_dreamOf_27 : Nat → Int32) (v_night_stateOf_27 : Nat → Int32) (v_night_roomOf_27 : Nat → Int32) (v_night_handOf_27 : Nat → Int32) (v_night_awake_27 : Nat → Int32) (v_night_thingIn_27 : Nat → Int32) (v_night_full_27 : Nat → Int32) (v_night_heardBy_27 : Nat → Int64) => (fX10_agree N).bind (un2 fun (r_31 : Int32) (v_refusal_31 : Int32) => zg r_31 (some (r_31, v_refusal_31, v_night_setting_27, v_night_been_27, v_night_ways_rooms_27, v_night_ways_steps_27, v_night_how_27, v_night_passed_27, v_night_dreamOf_27, v_night_stateOf_27, v_night_roomOf_27, v_night_handOf_27, v_night_awake_27, v_night_thingIn_27, v_night_full_27, v_night_heardBy_27, x_27)))) else ((fX4_become N v_m2_inn v_m2_setting v_m2_been v_m2_ways_rooms v_night_ways_steps v_m2_ways_steps v_m2_how v_night_how v_m2_passed v_night_passed v_m2_dreamOf v_night_dreamOf v_m2_stateOf v_night_stateOf v_m2_roomOf v_night_roomOf v_m2_handOf v_night_handOf v_m2_awake v_night_awake v_m2_thingIn v_night_thingIn v_m2_full v_night_full v_m2_heardBy v_night_heardBy).bind (un15 fun (x_27 : Option Nat) (v_night_setting_27 : Int32) (v_night_been_27 : Int32) (v_night_ways_rooms_27 : Int32) (v_night_ways_steps_27 : Nat → Int32) (v_night_how_27 : Nat → Int32) (v_night_passed_27 : Nat → Int32) (v_night_dreamOf_27 : Nat → Int32) (v_night_stateOf_27 : Nat → Int32) (v_night_roomOf_27 : Nat → Int32) (v_night_handOf_27 : Nat → Int32) (v_night_awake_27 : Nat → Int32) (v_night_thingIn_27 : Nat → Int32) (v_night_full_27 : Nat → Int32) (v_night_heardBy_27 : Nat → Int64) => (fX10_agree N).bind (un2 fun (r_31 : Int32) (v_refusal_31 : Int32) => zg r_31 (some (r_31, v_refusal_31, v_night_setting_27, v_night_been_27, v_night_ways_rooms_27, v_night_ways_steps_27, v_night_how_27, v_night_passed_27, v_night_dreamOf_27, v_night_stateOf_27, v_night_roomOf_27, v_night_handOf_27, v_night_awake_27, v_night_thingIn_27, v_night_full_27, v_night_heardBy_27, x_27))))))))
set_option maxHeartbeats 4000000 in
set_option maxRecDepth 100000 in
theorem ctX10_back (l : Launch) (E : EN) (h h_reader h_inn h_chosen h_night h_marks h_notes h_casts h_m0 h_m1 h_m2 h_m0_ways h_m0_how h_m0_passed h_m0_dreamOf h_m0_stateOf h_m0_roomOf h_m0_handOf h_m0_awake h_m0_thingIn h_m0_full h_m0_heardBy h_night_ways h_night_how h_night_passed h_night_dreamOf h_night_stateOf h_night_roomOf h_night_handOf h_night_awake h_night_thingIn h_night_full h_night_heardBy h_m0_ways_steps h_night_ways_steps h_m1_ways h_m1_how h_m1_passed h_m1_dreamOf h_m1_stateOf h_m1_roomOf h_m1_handOf h_m1_awake h_m1_thingIn h_m1_full h_m1_heardBy h_m1_ways_steps h_m2_ways h_m2_how h_m2_passed h_m2_dreamOf h_m2_stateOf h_m2_roomOf h_m2_handOf h_m2_awake h_m2_thingIn h_m2_full h_m2_heardBy h_m2_ways_steps : Nat) (v_marked : Int32) (v_refusal : Int32) (v_latestFault : Int32) (v_faultPlace : Int32) (v_m0_inn : Option Nat) (v_m0_setting : Int32) (v_m0_been : Int32) (v_night_setting : Int32) (v_night_been : Int32) (v_m0_ways_rooms : Int32) (v_night_ways_rooms : Int32) (v_night_ways_steps : Nat → Int32) (v_m0_ways_steps : Nat → Int32) (v_m0_how : Nat → Int32) (v_night_how : Nat → Int32) (v_m0_passed : Nat → Int32) (v_night_passed : Nat → Int32) (v_m0_dreamOf : Nat → Int32) (v_night_dreamOf : Nat → Int32) (v_m0_stateOf : Nat → Int32) (v_night_stateOf : Nat → Int32) (v_m0_roomOf : Nat → Int32) (v_night_roomOf : Nat → Int32) (v_m0_handOf : Nat → Int32) (v_night_handOf : Nat → Int32) (v_m0_awake : Nat → Int32) (v_night_awake : Nat → Int32) (v_m0_thingIn : Nat → Int32) (v_night_thingIn : Nat → Int32) (v_m0_full : Nat → Int32) (v_night_full : Nat → Int32) (v_m0_heardBy : Nat → Int64) (v_night_heardBy : Nat → Int64) (v_m1_inn : Option Nat) (v_m1_setting : Int32) (v_m1_been : Int32) (v_m1_ways_rooms : Int32) (v_m1_ways_steps : Nat → Int32) (v_m1_how : Nat → Int32) (v_m1_passed : Nat → Int32) (v_m1_dreamOf : Nat → Int32) (v_m1_stateOf : Nat → Int32) (v_m1_roomOf : Nat → Int32) (v_m1_handOf : Nat → Int32) (v_m1_awake : Nat → Int32) (v_m1_thingIn : Nat → Int32) (v_m1_full : Nat → Int32) (v_m1_heardBy : Nat → Int64) (v_m2_inn : Option Nat) (v_m2_setting : Int32) (v_m2_been : Int32) (v_m2_ways_rooms : Int32) (v_m2_ways_steps : Nat → Int32) (v_m2_how : Nat → Int32) (v_m2_passed : Nat → Int32) (v_m2_dreamOf : Nat → Int32) (v_m2_stateOf : Nat → Int32) (v_m2_roomOf : Nat → Int32) (v_m2_handOf : Nat → Int32) (v_m2_awake : Nat → Int32) (v_m2_thingIn : Nat → Int32) (v_m2_full : Nat → Int32) (v_m2_heardBy : Nat → Int64) (N : Nat) (p0 : Int32) (z0 : Int32) (z1 : Int32) (z2 : Int32) (z3 : Int32) (z4 : Int32) (z5 : Nat → Int32) (z6 : Nat → Int32) (z7 : Nat → Int32) (z8 : Nat → Int32) (z9 : Nat → Int32) (z10 : Nat → Int32) (z11 : Nat → Int32) (z12 : Nat → Int32) (z13 : Nat → Int32) (z14 : Nat → Int32) (z15 : Nat → Int64) (z16 : Option Nat) (hf : fX10_back N p0 v_marked v_m0_inn v_m0_setting v_m0_been v_night_setting v_night_been v_m0_ways_rooms v_night_ways_rooms v_night_ways_steps v_m0_ways_steps v_m0_how v_night_how v_m0_passed v_night_passed v_m0_dreamOf v_night_dreamOf v_m0_stateOf v_night_stateOf v_m0_roomOf v_night_roomOf v_m0_handOf v_night_handOf v_m0_awake v_night_awake v_m0_thingIn v_night_thingIn v_m0_full v_night_full v_m0_heardBy v_night_heardBy v_m1_inn v_m1_setting v_m1_been v_m1_ways_rooms v_m1_ways_steps v_m1_how v_m1_passed v_m1_dreamOf v_m1_stateOf v_m1_roomOf v_m1_handOf v_m1_awake v_m1_thingIn v_m1_full v_m1_heardBy v_m2_inn v_m2_setting v_m2_been v_m2_ways_rooms v_m2_ways_steps v_m2_how v_m2_passed v_m2_dreamOf v_m2_stateOf v_m2_roomOf v_m2_handOf v_m2_awake v_m2_thingIn v_m2_full v_m2_heardBy h_inn = some (z0, z1, z2, z3, z4, z5, z6, z7, z8, z9, z10, z11, z12, z13, z14, z15, z16)) : CTi l E yX10_back cX10_back 2 .boolean 3 68 [.ref h, .int p0] (wX10_back E h h_reader h_inn h_chosen h_night h_marks h_notes h_casts h_m0 h_m1 h_m2 h_m0_ways h_m0_how h_m0_passed h_m0_dreamOf h_m0_stateOf h_m0_roomOf h_m0_handOf h_m0_awake h_m0_thingIn h_m0_full h_m0_heardBy h_night_ways h_night_how h_night_passed h_night_dreamOf h_night_stateOf h_night_roomOf h_night_handOf h_night_awake h_night_thingIn h_night_full h_night_heardBy h_m0_ways_steps h_night_ways_steps h_m1_ways h_m1_how h_m1_passed h_m1_dreamOf h_m1_stateOf h_m1_roomOf h_m1_handOf h_m1_awake h_m1_thingIn h_m1_full h_m1_heardBy h_m1_ways_steps h_m2_ways h_m2_how h_m2_passed h_m2_dreamOf h_m2_stateOf h_m2_roomOf h_m2_handOf h_m2_awake h_m2_thingIn h_m2_full h_m2_heardBy h_m2_ways_steps v_marked v_refusal v_latestFault v_faultPlace v_m0_inn v_m0_setting v_m0_been v_night_setting v_night_been v_m0_ways_rooms v_night_ways_rooms v_night_ways_steps v_m0_ways_steps v_m0_how v_night_how v_m0_passed v_night_passed v_m0_dreamOf v_night_dreamOf v_m0_stateOf v_night_stateOf v_m0_roomOf v_night_roomOf v_m0_handOf v_night_handOf v_m0_awake v_night_awake v_m0_thingIn v_night_thingIn v_m0_full v_night_full v_m0_heardBy v_night_heardBy v_m1_inn v_m1_setting v_m1_been v_m1_ways_rooms v_m1_ways_steps v_m1_how v_m1_passed v_m1_dreamOf v_m1_stateOf v_m1_roomOf v_m1_handOf v_m1_awake v_m1_thingIn v_m1_full v_m1_heardBy v_m2_inn v_m2_setting v_m2_been v_m2_ways_rooms v_m2_ways_steps v_m2_how v_m2_passed v_m2_dreamOf v_m2_stateOf v_m2_roomOf v_m2_handOf v_m2_awake v_m2_thingIn v_m2_full v_m2_heardBy) z0 [(h, .inr (9, [.ref h_reader, .ref h_inn, .ref h_chosen, .ref h_night, .ref h_marks, .int v_marked, .ref h_notes, .ref h_casts, .int z1, .int v_latestFault, .int v_faultPlace])), (h_marks, aQ E 3 (mk3 h_m0 h_m1 h_m2)), (h_m0, .inr (4, [va_rf v_m0_inn, .int v_m0_setting, .int v_m0_been, .ref h_m0_ways, .ref h_m0_how, .ref h_m0_passed, .ref h_m0_dreamOf, .ref h_m0_stateOf, .ref h_m0_roomOf, .ref h_m0_handOf, .ref h_m0_awake, .ref h_m0_thingIn, .ref h_m0_full, .ref h_m0_heardBy])), (h_night, .inr (4, [va_rf z16, .int z2, .int z3, .ref h_night_ways, .ref h_night_how, .ref h_night_passed, .ref h_night_dreamOf, .ref h_night_stateOf, .ref h_night_roomOf, .ref h_night_handOf, .ref h_night_awake, .ref h_night_thingIn, .ref h_night_full, .ref h_night_heardBy])), (h_m0_ways, .inr (8, [.ref h_m0_ways_steps, .int v_m0_ways_rooms])), (h_night_ways, .inr (8, [.ref h_night_ways_steps, .int z4])), (h_night_ways_steps, aI E 64 z5), (h_m0_ways_steps, aI E 64 v_m0_ways_steps), (h_m0_how, aI E 10 v_m0_how), (h_night_how, aI E 10 z6), (h_m0_passed, aI E 10 v_m0_passed), (h_night_passed, aI E 10 z7), (h_m0_dreamOf, aI E 3 v_m0_dreamOf), (h_night_dreamOf, aI E 3 z8), (h_m0_stateOf, aI E 3 v_m0_stateOf), (h_night_stateOf, aI E 3 z9), (h_m0_roomOf, aI E 3 v_m0_roomOf), (h_night_roomOf, aI E 3 z10), (h_m0_handOf, aI E 3 v_m0_handOf), (h_night_handOf, aI E 3 z11), (h_m0_awake, aZ E 3 v_m0_awake), (h_night_awake, aZ E 3 z12), (h_m0_thingIn, aI E 4 v_m0_thingIn), (h_night_thingIn, aI E 4 z13), (h_m0_full, aZ E 4 v_m0_full), (h_night_full, aZ E 4 z14), (h_m0_heardBy, aJ E 3 v_m0_heardBy), (h_night_heardBy, aJ E 3 z15), (h_m1, .inr (4, [va_rf v_m1_inn, .int v_m1_setting, .int v_m1_been, .ref h_m1_ways, .ref h_m1_how, .ref h_m1_passed, .ref h_m1_dreamOf, .ref h_m1_stateOf, .ref h_m1_roomOf, .ref h_m1_handOf, .ref h_m1_awake, .ref h_m1_thingIn, .ref h_m1_full, .ref h_m1_heardBy])), (h_m1_ways, .inr (8, [.ref h_m1_ways_steps, .int v_m1_ways_rooms])), (h_m1_ways_steps, aI E 64 v_m1_ways_steps), (h_m1_how, aI E 10 v_m1_how), (h_m1_passed, aI E 10 v_m1_passed), (h_m1_dreamOf, aI E 3 v_m1_dreamOf), (h_m1_stateOf, aI E 3 v_m1_stateOf), (h_m1_roomOf, aI E 3 v_m1_roomOf), (h_m1_handOf, aI E 3 v_m1_handOf), (h_m1_awake, aZ E 3 v_m1_awake), (h_m1_thingIn, aI E 4 v_m1_thingIn), (h_m1_full, aZ E 4 v_m1_full), (h_m1_heardBy, aJ E 3 v_m1_heardBy), (h_m2, .inr (4, [va_rf v_m2_inn, .int v_m2_setting, .int v_m2_been, .ref h_m2_ways, .ref h_m2_how, .ref h_m2_passed, .ref h_m2_dreamOf, .ref h_m2_stateOf, .ref h_m2_roomOf, .ref h_m2_handOf, .ref h_m2_awake, .ref h_m2_thingIn, .ref h_m2_full, .ref h_m2_heardBy])), (h_m2_ways, .inr (8, [.ref h_m2_ways_steps, .int v_m2_ways_rooms])), (h_m2_ways_steps, aI E 64 v_m2_ways_steps), (h_m2_how, aI E 10 v_m2_how), (h_m2_passed, aI E 10 v_m2_passed), (h_m2_dreamOf, aI E 3 v_m2_dreamOf), (h_m2_stateOf, aI E 3 v_m2_stateOf), (h_m2_roomOf, aI E 3 v_m2_roomOf), (h_m2_handOf, aI E 3 v_m2_handOf), (h_m2_awake, aZ E 3 v_m2_awake), (h_m2_thingIn, aI E 4 v_m2_thingIn), (h_m2_full, aZ E 4 v_m2_full), (h_m2_heardBy, aJ E 3 v_m2_heardBy)] := by
  intro sz
  refine ct_body (by decide) (Nat.le_of_ble_eq_true rfl) ?_
  intro p e s m args below meth c A ls hAe C hr hin hP hD hS hl
  have C : CX p s m args meth c cX10_back RX10 2 E A := C
  have hl : lv_has ls 2 [(0, .ref h), (1, .int p0)] := hl
  have hx := C.1
  have hb := C.2.1
  rw [hAe]
  clear hAe
  obtain ⟨Q, hQ⟩ : ∃ Q, Q = MQ below (Qi E A z0 [(h, .inr (9, [.ref h_reader, .ref h_inn, .ref h_chosen, .ref h_night, .ref h_marks, .int v_marked, .ref h_notes, .ref h_casts, .int z1, .int v_latestFault, .int v_faultPlace])), (h_marks, aQ E 3 (mk3 h_m0 h_m1 h_m2)), (h_m0, .inr (4, [va_rf v_m0_inn, .int v_m0_setting, .int v_m0_been, .ref h_m0_ways, .ref h_m0_how, .ref h_m0_passed, .ref h_m0_dreamOf, .ref h_m0_stateOf, .ref h_m0_roomOf, .ref h_m0_handOf, .ref h_m0_awake, .ref h_m0_thingIn, .ref h_m0_full, .ref h_m0_heardBy])), (h_night, .inr (4, [va_rf z16, .int z2, .int z3, .ref h_night_ways, .ref h_night_how, .ref h_night_passed, .ref h_night_dreamOf, .ref h_night_stateOf, .ref h_night_roomOf, .ref h_night_handOf, .ref h_night_awake, .ref h_night_thingIn, .ref h_night_full, .ref h_night_heardBy])), (h_m0_ways, .inr (8, [.ref h_m0_ways_steps, .int v_m0_ways_rooms])), (h_night_ways, .inr (8, [.ref h_night_ways_steps, .int z4])), (h_night_ways_steps, aI E 64 z5), (h_m0_ways_steps, aI E 64 v_m0_ways_steps), (h_m0_how, aI E 10 v_m0_how), (h_night_how, aI E 10 z6), (h_m0_passed, aI E 10 v_m0_passed), (h_night_passed, aI E 10 z7), (h_m0_dreamOf, aI E 3 v_m0_dreamOf), (h_night_dreamOf, aI E 3 z8), (h_m0_stateOf, aI E 3 v_m0_stateOf), (h_night_stateOf, aI E 3 z9), (h_m0_roomOf, aI E 3 v_m0_roomOf), (h_night_roomOf, aI E 3 z10), (h_m0_handOf, aI E 3 v_m0_handOf), (h_night_handOf, aI E 3 z11), (h_m0_awake, aZ E 3 v_m0_awake), (h_night_awake, aZ E 3 z12), (h_m0_thingIn, aI E 4 v_m0_thingIn), (h_night_thingIn, aI E 4 z13), (h_m0_full, aZ E 4 v_m0_full), (h_night_full, aZ E 4 z14), (h_m0_heardBy, aJ E 3 v_m0_heardBy), (h_night_heardBy, aJ E 3 z15), (h_m1, .inr (4, [va_rf v_m1_inn, .int v_m1_setting, .int v_m1_been, .ref h_m1_ways, .ref h_m1_how, .ref h_m1_passed, .ref h_m1_dreamOf, .ref h_m1_stateOf, .ref h_m1_roomOf, .ref h_m1_handOf, .ref h_m1_awake, .ref h_m1_thingIn, .ref h_m1_full, .ref h_m1_heardBy])), (h_m1_ways, .inr (8, [.ref h_m1_ways_steps, .int v_m1_ways_rooms])), (h_m1_ways_steps, aI E 64 v_m1_ways_steps), (h_m1_how, aI E 10 v_m1_how), (h_m1_passed, aI E 10 v_m1_passed), (h_m1_dreamOf, aI E 3 v_m1_dreamOf), (h_m1_stateOf, aI E 3 v_m1_stateOf), (h_m1_roomOf, aI E 3 v_m1_roomOf), (h_m1_handOf, aI E 3 v_m1_handOf), (h_m1_awake, aZ E 3 v_m1_awake), (h_m1_thingIn, aI E 4 v_m1_thingIn), (h_m1_full, aZ E 4 v_m1_full), (h_m1_heardBy, aJ E 3 v_m1_heardBy), (h_m2, .inr (4, [va_rf v_m2_inn, .int v_m2_setting, .int v_m2_been, .ref h_m2_ways, .ref h_m2_how, .ref h_m2_passed, .ref h_m2_dreamOf, .ref h_m2_stateOf, .ref h_m2_roomOf, .ref h_m2_handOf, .ref h_m2_awake, .ref h_m2_thingIn, .ref h_m2_full, .ref h_m2_heardBy])), (h_m2_ways, .inr (8, [.ref h_m2_ways_steps, .int v_m2_ways_rooms])), (h_m2_ways_steps, aI E 64 v_m2_ways_steps), (h_m2_how, aI E 10 v_m2_how), (h_m2_passed, aI E 10 v_m2_passed), (h_m2_dreamOf, aI E 3 v_m2_dreamOf), (h_m2_stateOf, aI E 3 v_m2_stateOf), (h_m2_roomOf, aI E 3 v_m2_roomOf), (h_m2_handOf, aI E 3 v_m2_handOf), (h_m2_awake, aZ E 3 v_m2_awake), (h_m2_thingIn, aI E 4 v_m2_thingIn), (h_m2_full, aZ E 4 v_m2_full), (h_m2_heardBy, aJ E 3 v_m2_heardBy)]) args s 0 0 A := ⟨_, rfl⟩
  rw [← hQ]
  unfold fX10_back at hf
  refine lv_iload_n hx hb dX10_back_0 rfl (lv_at hl 1 rfl) ?_
  refine lv_aload_n hx hb dX10_back_1 rfl (lv_at hl 0 rfl) ?_
  refine r_get C hP 0 rfl fl_X10_242 rfl dX10_back_2 ?_
  obtain ⟨r_5, hc_5, hf⟩ := bd1 hf
  refine r_callSi (ws' := (wX10_back E h h_reader h_inn h_chosen h_night h_marks h_notes h_casts h_m0 h_m1 h_m2 h_m0_ways h_m0_how h_m0_passed h_m0_dreamOf h_m0_stateOf h_m0_roomOf h_m0_handOf h_m0_awake h_m0_thingIn h_m0_full h_m0_heardBy h_night_ways h_night_how h_night_passed h_night_dreamOf h_night_stateOf h_night_roomOf h_night_handOf h_night_awake h_night_thingIn h_night_full h_night_heardBy h_m0_ways_steps h_night_ways_steps h_m1_ways h_m1_how h_m1_passed h_m1_dreamOf h_m1_stateOf h_m1_roomOf h_m1_handOf h_m1_awake h_m1_thingIn h_m1_full h_m1_heardBy h_m1_ways_steps h_m2_ways h_m2_how h_m2_passed h_m2_dreamOf h_m2_stateOf h_m2_roomOf h_m2_handOf h_m2_awake h_m2_thingIn h_m2_full h_m2_heardBy h_m2_ways_steps v_marked v_refusal v_latestFault v_faultPlace v_m0_inn v_m0_setting v_m0_been v_night_setting v_night_been v_m0_ways_rooms v_night_ways_rooms v_night_ways_steps v_m0_ways_steps v_m0_how v_night_how v_m0_passed v_night_passed v_m0_dreamOf v_night_dreamOf v_m0_stateOf v_night_stateOf v_m0_roomOf v_night_roomOf v_m0_handOf v_night_handOf v_m0_awake v_night_awake v_m0_thingIn v_night_thingIn v_m0_full v_night_full v_m0_heardBy v_night_heardBy v_m1_inn v_m1_setting v_m1_been v_m1_ways_rooms v_m1_ways_steps v_m1_how v_m1_passed v_m1_dreamOf v_m1_stateOf v_m1_roomOf v_m1_handOf v_m1_awake v_m1_thingIn v_m1_full v_m1_heardBy v_m2_inn v_m2_setting v_m2_been v_m2_ways_rooms v_m2_ways_steps v_m2_how v_m2_passed v_m2_dreamOf v_m2_stateOf v_m2_roomOf v_m2_handOf v_m2_awake v_m2_thingIn v_m2_full v_m2_heardBy)) (As := [.int p0, .int v_marked]) (rest := []) C (ctX10_isBelow l E N p0 v_marked r_5 hc_5) ml_X10_121 ⟨Nat.le_of_ble_eq_true rfl, Nat.le_of_ble_eq_true rfl⟩ hP hD hS [] rfl rfl rfl rfl rfl hl.1 rfl (Nat.le_of_ble_eq_true rfl) ⟨Nat.zero_le _, Nat.zero_le _⟩ dX10_back_5 ?_
  clear hP hD hS; intro H locs hP hD hS
  refine lv_if_ne (tgt := 17) hx hb dX10_back_8 (by decide) (fun c_8 => ?_) (fun c_8 => ?_)
  · replace hf := it_f c_8 hf
    refine lv_aload_n hx hb dX10_back_17 rfl (lv_at hl 0 rfl) ?_
    refine r_get C hP 0 rfl fl_X10_32 rfl dX10_back_18 ?_
    refine lv_aload_n hx hb dX10_back_21 rfl (lv_at hl 0 rfl) ?_
    refine r_get C hP 0 rfl fl_X10_36 rfl dX10_back_22 ?_
    refine lv_iload_n hx hb dX10_back_25 rfl (lv_at hl 1 rfl) ?_
    obtain ⟨hi_26, hf⟩ := gd_s hf
    refine r_ald3 C hP 1 rfl hi_26 dX10_back_26 (fun c_26_0 => ?_) (fun c_26_0 c_26_1 => ?_) (fun c_26_0 c_26_1 => ?_)
    · replace hf := it_t c_26_0 hf
      obtain ⟨x_27, v_night_setting_27, v_night_been_27, v_night_ways_rooms_27, v_night_ways_steps_27, v_night_how_27, v_night_passed_27, v_night_dreamOf_27, v_night_stateOf_27, v_night_roomOf_27, v_night_handOf_27, v_night_awake_27, v_night_thingIn_27, v_night_full_27, v_night_heardBy_27, hc_27, hf⟩ := bd15 hf
      refine r_callVv (ws' := [(h, .inr (9, [.ref h_reader, .ref h_inn, .ref h_chosen, .ref h_night, .ref h_marks, .int v_marked, .ref h_notes, .ref h_casts, .int v_refusal, .int v_latestFault, .int v_faultPlace])), (h_marks, aQ E 3 (mk3 h_m0 h_m1 h_m2)), (h_m0, .inr (4, [va_rf v_m0_inn, .int v_m0_setting, .int v_m0_been, .ref h_m0_ways, .ref h_m0_how, .ref h_m0_passed, .ref h_m0_dreamOf, .ref h_m0_stateOf, .ref h_m0_roomOf, .ref h_m0_handOf, .ref h_m0_awake, .ref h_m0_thingIn, .ref h_m0_full, .ref h_m0_heardBy])), (h_night, .inr (4, [va_rf x_27, .int v_night_setting_27, .int v_night_been_27, .ref h_night_ways, .ref h_night_how, .ref h_night_passed, .ref h_night_dreamOf, .ref h_night_stateOf, .ref h_night_roomOf, .ref h_night_handOf, .ref h_night_awake, .ref h_night_thingIn, .ref h_night_full, .ref h_night_heardBy])), (h_m0_ways, .inr (8, [.ref h_m0_ways_steps, .int v_m0_ways_rooms])), (h_night_ways, .inr (8, [.ref h_night_ways_steps, .int v_night_ways_rooms_27])), (h_night_ways_steps, aI E 64 v_night_ways_steps_27), (h_m0_ways_steps, aI E 64 v_m0_ways_steps), (h_m0_how, aI E 10 v_m0_how), (h_night_how, aI E 10 v_night_how_27), (h_m0_passed, aI E 10 v_m0_passed), (h_night_passed, aI E 10 v_night_passed_27), (h_m0_dreamOf, aI E 3 v_m0_dreamOf), (h_night_dreamOf, aI E 3 v_night_dreamOf_27), (h_m0_stateOf, aI E 3 v_m0_stateOf), (h_night_stateOf, aI E 3 v_night_stateOf_27), (h_m0_roomOf, aI E 3 v_m0_roomOf), (h_night_roomOf, aI E 3 v_night_roomOf_27), (h_m0_handOf, aI E 3 v_m0_handOf), (h_night_handOf, aI E 3 v_night_handOf_27), (h_m0_awake, aZ E 3 v_m0_awake), (h_night_awake, aZ E 3 v_night_awake_27), (h_m0_thingIn, aI E 4 v_m0_thingIn), (h_night_thingIn, aI E 4 v_night_thingIn_27), (h_m0_full, aZ E 4 v_m0_full), (h_night_full, aZ E 4 v_night_full_27), (h_m0_heardBy, aJ E 3 v_m0_heardBy), (h_night_heardBy, aJ E 3 v_night_heardBy_27), (h_m1, .inr (4, [va_rf v_m1_inn, .int v_m1_setting, .int v_m1_been, .ref h_m1_ways, .ref h_m1_how, .ref h_m1_passed, .ref h_m1_dreamOf, .ref h_m1_stateOf, .ref h_m1_roomOf, .ref h_m1_handOf, .ref h_m1_awake, .ref h_m1_thingIn, .ref h_m1_full, .ref h_m1_heardBy])), (h_m1_ways, .inr (8, [.ref h_m1_ways_steps, .int v_m1_ways_rooms])), (h_m1_ways_steps, aI E 64 v_m1_ways_steps), (h_m1_how, aI E 10 v_m1_how), (h_m1_passed, aI E 10 v_m1_passed), (h_m1_dreamOf, aI E 3 v_m1_dreamOf), (h_m1_stateOf, aI E 3 v_m1_stateOf), (h_m1_roomOf, aI E 3 v_m1_roomOf), (h_m1_handOf, aI E 3 v_m1_handOf), (h_m1_awake, aZ E 3 v_m1_awake), (h_m1_thingIn, aI E 4 v_m1_thingIn), (h_m1_full, aZ E 4 v_m1_full), (h_m1_heardBy, aJ E 3 v_m1_heardBy), (h_m2, .inr (4, [va_rf v_m2_inn, .int v_m2_setting, .int v_m2_been, .ref h_m2_ways, .ref h_m2_how, .ref h_m2_passed, .ref h_m2_dreamOf, .ref h_m2_stateOf, .ref h_m2_roomOf, .ref h_m2_handOf, .ref h_m2_awake, .ref h_m2_thingIn, .ref h_m2_full, .ref h_m2_heardBy])), (h_m2_ways, .inr (8, [.ref h_m2_ways_steps, .int v_m2_ways_rooms])), (h_m2_ways_steps, aI E 64 v_m2_ways_steps), (h_m2_how, aI E 10 v_m2_how), (h_m2_passed, aI E 10 v_m2_passed), (h_m2_dreamOf, aI E 3 v_m2_dreamOf), (h_m2_stateOf, aI E 3 v_m2_stateOf), (h_m2_roomOf, aI E 3 v_m2_roomOf), (h_m2_handOf, aI E 3 v_m2_handOf), (h_m2_awake, aZ E 3 v_m2_awake), (h_m2_thingIn, aI E 4 v_m2_thingIn), (h_m2_full, aZ E 4 v_m2_full), (h_m2_heardBy, aJ E 3 v_m2_heardBy)]) (As := [.ref h_m0]) (rest := []) C (ctX4_become l E h_m0 h_m0_ways h_m0_how h_m0_passed h_m0_dreamOf h_m0_stateOf h_m0_roomOf h_m0_handOf h_m0_awake h_m0_thingIn h_m0_full h_m0_heardBy h_night h_night_ways h_night_how h_night_passed h_night_dreamOf h_night_stateOf h_night_roomOf h_night_handOf h_night_awake h_night_thingIn h_night_full h_night_heardBy h_m0_ways_steps h_night_ways_steps v_m0_inn v_m0_setting v_m0_been (some h_inn) v_night_setting v_night_been v_m0_ways_rooms v_night_ways_rooms v_night_ways_steps v_m0_ways_steps v_m0_how v_night_how v_m0_passed v_night_passed v_m0_dreamOf v_night_dreamOf v_m0_stateOf v_night_stateOf v_m0_roomOf v_night_roomOf v_m0_handOf v_night_handOf v_m0_awake v_night_awake v_m0_thingIn v_night_thingIn v_m0_full v_night_full v_m0_heardBy v_night_heardBy N x_27 v_night_setting_27 v_night_been_27 v_night_ways_rooms_27 v_night_ways_steps_27 v_night_how_27 v_night_passed_27 v_night_dreamOf_27 v_night_stateOf_27 v_night_roomOf_27 v_night_handOf_27 v_night_awake_27 v_night_thingIn_27 v_night_full_27 v_night_heardBy_27 hc_27) ml_X10_245 ⟨Nat.le_of_ble_eq_true rfl, Nat.le_of_ble_eq_true rfl⟩ hP hD hS 3 rfl rfl rfl [2, 3, 4, 5, 6, 7, 8, 9, 10, 11, 12, 13, 14, 15, 16, 17, 18, 19, 20, 21, 22, 23, 24, 25, 26, 27] rfl rfl rfl rfl rfl hl.1 rfl (Nat.le_of_ble_eq_true rfl) ⟨Nat.zero_le _, Nat.zero_le _⟩ dX10_back_27 ?_
      clear hP hD hS; intro H locs hP hD hS
      refine lv_aload_n hx hb dX10_back_30 rfl (lv_at hl 0 rfl) ?_
      obtain ⟨r_31, v_refusal_31, hc_31, hf⟩ := bd2 hf
      refine r_callVi (ws' := [(h, .inr (9, [.ref h_reader, .ref h_inn, .ref h_chosen, .ref h_night, .ref h_marks, .int v_marked, .ref h_notes, .ref h_casts, .int v_refusal_31, .int v_latestFault, .int v_faultPlace])), (h_marks, aQ E 3 (mk3 h_m0 h_m1 h_m2)), (h_m0, .inr (4, [va_rf v_m0_inn, .int v_m0_setting, .int v_m0_been, .ref h_m0_ways, .ref h_m0_how, .ref h_m0_passed, .ref h_m0_dreamOf, .ref h_m0_stateOf, .ref h_m0_roomOf, .ref h_m0_handOf, .ref h_m0_awake, .ref h_m0_thingIn, .ref h_m0_full, .ref h_m0_heardBy])), (h_night, .inr (4, [va_rf x_27, .int v_night_setting_27, .int v_night_been_27, .ref h_night_ways, .ref h_night_how, .ref h_night_passed, .ref h_night_dreamOf, .ref h_night_stateOf, .ref h_night_roomOf, .ref h_night_handOf, .ref h_night_awake, .ref h_night_thingIn, .ref h_night_full, .ref h_night_heardBy])), (h_m0_ways, .inr (8, [.ref h_m0_ways_steps, .int v_m0_ways_rooms])), (h_night_ways, .inr (8, [.ref h_night_ways_steps, .int v_night_ways_rooms_27])), (h_night_ways_steps, aI E 64 v_night_ways_steps_27), (h_m0_ways_steps, aI E 64 v_m0_ways_steps), (h_m0_how, aI E 10 v_m0_how), (h_night_how, aI E 10 v_night_how_27), (h_m0_passed, aI E 10 v_m0_passed), (h_night_passed, aI E 10 v_night_passed_27), (h_m0_dreamOf, aI E 3 v_m0_dreamOf), (h_night_dreamOf, aI E 3 v_night_dreamOf_27), (h_m0_stateOf, aI E 3 v_m0_stateOf), (h_night_stateOf, aI E 3 v_night_stateOf_27), (h_m0_roomOf, aI E 3 v_m0_roomOf), (h_night_roomOf, aI E 3 v_night_roomOf_27), (h_m0_handOf, aI E 3 v_m0_handOf), (h_night_handOf, aI E 3 v_night_handOf_27), (h_m0_awake, aZ E 3 v_m0_awake), (h_night_awake, aZ E 3 v_night_awake_27), (h_m0_thingIn, aI E 4 v_m0_thingIn), (h_night_thingIn, aI E 4 v_night_thingIn_27), (h_m0_full, aZ E 4 v_m0_full), (h_night_full, aZ E 4 v_night_full_27), (h_m0_heardBy, aJ E 3 v_m0_heardBy), (h_night_heardBy, aJ E 3 v_night_heardBy_27), (h_m1, .inr (4, [va_rf v_m1_inn, .int v_m1_setting, .int v_m1_been, .ref h_m1_ways, .ref h_m1_how, .ref h_m1_passed, .ref h_m1_dreamOf, .ref h_m1_stateOf, .ref h_m1_roomOf, .ref h_m1_handOf, .ref h_m1_awake, .ref h_m1_thingIn, .ref h_m1_full, .ref h_m1_heardBy])), (h_m1_ways, .inr (8, [.ref h_m1_ways_steps, .int v_m1_ways_rooms])), (h_m1_ways_steps, aI E 64 v_m1_ways_steps), (h_m1_how, aI E 10 v_m1_how), (h_m1_passed, aI E 10 v_m1_passed), (h_m1_dreamOf, aI E 3 v_m1_dreamOf), (h_m1_stateOf, aI E 3 v_m1_stateOf), (h_m1_roomOf, aI E 3 v_m1_roomOf), (h_m1_handOf, aI E 3 v_m1_handOf), (h_m1_awake, aZ E 3 v_m1_awake), (h_m1_thingIn, aI E 4 v_m1_thingIn), (h_m1_full, aZ E 4 v_m1_full), (h_m1_heardBy, aJ E 3 v_m1_heardBy), (h_m2, .inr (4, [va_rf v_m2_inn, .int v_m2_setting, .int v_m2_been, .ref h_m2_ways, .ref h_m2_how, .ref h_m2_passed, .ref h_m2_dreamOf, .ref h_m2_stateOf, .ref h_m2_roomOf, .ref h_m2_handOf, .ref h_m2_awake, .ref h_m2_thingIn, .ref h_m2_full, .ref h_m2_heardBy])), (h_m2_ways, .inr (8, [.ref h_m2_ways_steps, .int v_m2_ways_rooms])), (h_m2_ways_steps, aI E 64 v_m2_ways_steps), (h_m2_how, aI E 10 v_m2_how), (h_m2_passed, aI E 10 v_m2_passed), (h_m2_dreamOf, aI E 3 v_m2_dreamOf), (h_m2_stateOf, aI E 3 v_m2_stateOf), (h_m2_roomOf, aI E 3 v_m2_roomOf), (h_m2_handOf, aI E 3 v_m2_handOf), (h_m2_awake, aZ E 3 v_m2_awake), (h_m2_thingIn, aI E 4 v_m2_thingIn), (h_m2_full, aZ E 4 v_m2_full), (h_m2_heardBy, aJ E 3 v_m2_heardBy)]) (As := []) (rest := []) C (ctX10_agree l E h h_reader h_inn h_chosen h_night h_marks h_notes h_casts v_marked v_refusal v_latestFault v_faultPlace N r_31 v_refusal_31 hc_31) ml_X10_163 ⟨Nat.le_of_ble_eq_true rfl, Nat.le_of_ble_eq_true rfl⟩ hP hD hS 0 rfl rfl rfl [0] rfl rfl rfl rfl rfl hl.1 rfl (Nat.le_of_ble_eq_true rfl) ⟨Nat.zero_le _, Nat.zero_le _⟩ dX10_back_31 ?_
      clear hP hD hS; intro H locs hP hD hS
      obtain ⟨hz_34, hf⟩ := zg_s hf
      cases hf
      rw [hQ]
      exact r_zret C hr hP hD hS hz_34 rfl dX10_back_34
    · replace hf := it_t c_26_1 (it_f c_26_0 hf)
      obtain ⟨x_27, v_night_setting_27, v_night_been_27, v_night_ways_rooms_27, v_night_ways_steps_27, v_night_how_27, v_night_passed_27, v_night_dreamOf_27, v_night_stateOf_27, v_night_roomOf_27, v_night_handOf_27, v_night_awake_27, v_night_thingIn_27, v_night_full_27, v_night_heardBy_27, hc_27, hf⟩ := bd15 hf
      refine r_callVv (ws' := [(h, .inr (9, [.ref h_reader, .ref h_inn, .ref h_chosen, .ref h_night, .ref h_marks, .int v_marked, .ref h_notes, .ref h_casts, .int v_refusal, .int v_latestFault, .int v_faultPlace])), (h_marks, aQ E 3 (mk3 h_m0 h_m1 h_m2)), (h_m0, .inr (4, [va_rf v_m0_inn, .int v_m0_setting, .int v_m0_been, .ref h_m0_ways, .ref h_m0_how, .ref h_m0_passed, .ref h_m0_dreamOf, .ref h_m0_stateOf, .ref h_m0_roomOf, .ref h_m0_handOf, .ref h_m0_awake, .ref h_m0_thingIn, .ref h_m0_full, .ref h_m0_heardBy])), (h_night, .inr (4, [va_rf x_27, .int v_night_setting_27, .int v_night_been_27, .ref h_night_ways, .ref h_night_how, .ref h_night_passed, .ref h_night_dreamOf, .ref h_night_stateOf, .ref h_night_roomOf, .ref h_night_handOf, .ref h_night_awake, .ref h_night_thingIn, .ref h_night_full, .ref h_night_heardBy])), (h_m0_ways, .inr (8, [.ref h_m0_ways_steps, .int v_m0_ways_rooms])), (h_night_ways, .inr (8, [.ref h_night_ways_steps, .int v_night_ways_rooms_27])), (h_night_ways_steps, aI E 64 v_night_ways_steps_27), (h_m0_ways_steps, aI E 64 v_m0_ways_steps), (h_m0_how, aI E 10 v_m0_how), (h_night_how, aI E 10 v_night_how_27), (h_m0_passed, aI E 10 v_m0_passed), (h_night_passed, aI E 10 v_night_passed_27), (h_m0_dreamOf, aI E 3 v_m0_dreamOf), (h_night_dreamOf, aI E 3 v_night_dreamOf_27), (h_m0_stateOf, aI E 3 v_m0_stateOf), (h_night_stateOf, aI E 3 v_night_stateOf_27), (h_m0_roomOf, aI E 3 v_m0_roomOf), (h_night_roomOf, aI E 3 v_night_roomOf_27), (h_m0_handOf, aI E 3 v_m0_handOf), (h_night_handOf, aI E 3 v_night_handOf_27), (h_m0_awake, aZ E 3 v_m0_awake), (h_night_awake, aZ E 3 v_night_awake_27), (h_m0_thingIn, aI E 4 v_m0_thingIn), (h_night_thingIn, aI E 4 v_night_thingIn_27), (h_m0_full, aZ E 4 v_m0_full), (h_night_full, aZ E 4 v_night_full_27), (h_m0_heardBy, aJ E 3 v_m0_heardBy), (h_night_heardBy, aJ E 3 v_night_heardBy_27), (h_m1, .inr (4, [va_rf v_m1_inn, .int v_m1_setting, .int v_m1_been, .ref h_m1_ways, .ref h_m1_how, .ref h_m1_passed, .ref h_m1_dreamOf, .ref h_m1_stateOf, .ref h_m1_roomOf, .ref h_m1_handOf, .ref h_m1_awake, .ref h_m1_thingIn, .ref h_m1_full, .ref h_m1_heardBy])), (h_m1_ways, .inr (8, [.ref h_m1_ways_steps, .int v_m1_ways_rooms])), (h_m1_ways_steps, aI E 64 v_m1_ways_steps), (h_m1_how, aI E 10 v_m1_how), (h_m1_passed, aI E 10 v_m1_passed), (h_m1_dreamOf, aI E 3 v_m1_dreamOf), (h_m1_stateOf, aI E 3 v_m1_stateOf), (h_m1_roomOf, aI E 3 v_m1_roomOf), (h_m1_handOf, aI E 3 v_m1_handOf), (h_m1_awake, aZ E 3 v_m1_awake), (h_m1_thingIn, aI E 4 v_m1_thingIn), (h_m1_full, aZ E 4 v_m1_full), (h_m1_heardBy, aJ E 3 v_m1_heardBy), (h_m2, .inr (4, [va_rf v_m2_inn, .int v_m2_setting, .int v_m2_been, .ref h_m2_ways, .ref h_m2_how, .ref h_m2_passed, .ref h_m2_dreamOf, .ref h_m2_stateOf, .ref h_m2_roomOf, .ref h_m2_handOf, .ref h_m2_awake, .ref h_m2_thingIn, .ref h_m2_full, .ref h_m2_heardBy])), (h_m2_ways, .inr (8, [.ref h_m2_ways_steps, .int v_m2_ways_rooms])), (h_m2_ways_steps, aI E 64 v_m2_ways_steps), (h_m2_how, aI E 10 v_m2_how), (h_m2_passed, aI E 10 v_m2_passed), (h_m2_dreamOf, aI E 3 v_m2_dreamOf), (h_m2_stateOf, aI E 3 v_m2_stateOf), (h_m2_roomOf, aI E 3 v_m2_roomOf), (h_m2_handOf, aI E 3 v_m2_handOf), (h_m2_awake, aZ E 3 v_m2_awake), (h_m2_thingIn, aI E 4 v_m2_thingIn), (h_m2_full, aZ E 4 v_m2_full), (h_m2_heardBy, aJ E 3 v_m2_heardBy)]) (As := [.ref h_m1]) (rest := []) C (ctX4_become l E h_m1 h_m1_ways h_m1_how h_m1_passed h_m1_dreamOf h_m1_stateOf h_m1_roomOf h_m1_handOf h_m1_awake h_m1_thingIn h_m1_full h_m1_heardBy h_night h_night_ways h_night_how h_night_passed h_night_dreamOf h_night_stateOf h_night_roomOf h_night_handOf h_night_awake h_night_thingIn h_night_full h_night_heardBy h_m1_ways_steps h_night_ways_steps v_m1_inn v_m1_setting v_m1_been (some h_inn) v_night_setting v_night_been v_m1_ways_rooms v_night_ways_rooms v_night_ways_steps v_m1_ways_steps v_m1_how v_night_how v_m1_passed v_night_passed v_m1_dreamOf v_night_dreamOf v_m1_stateOf v_night_stateOf v_m1_roomOf v_night_roomOf v_m1_handOf v_night_handOf v_m1_awake v_night_awake v_m1_thingIn v_night_thingIn v_m1_full v_night_full v_m1_heardBy v_night_heardBy N x_27 v_night_setting_27 v_night_been_27 v_night_ways_rooms_27 v_night_ways_steps_27 v_night_how_27 v_night_passed_27 v_night_dreamOf_27 v_night_stateOf_27 v_night_roomOf_27 v_night_handOf_27 v_night_awake_27 v_night_thingIn_27 v_night_full_27 v_night_heardBy_27 hc_27) ml_X10_245 ⟨Nat.le_of_ble_eq_true rfl, Nat.le_of_ble_eq_true rfl⟩ hP hD hS 3 rfl rfl rfl [28, 3, 29, 5, 6, 30, 31, 9, 32, 11, 33, 13, 34, 15, 35, 17, 36, 19, 37, 21, 38, 23, 39, 25, 40, 27] rfl rfl rfl rfl rfl hl.1 rfl (Nat.le_of_ble_eq_true rfl) ⟨Nat.zero_le _, Nat.zero_le _⟩ dX10_back_27 ?_
      clear hP hD hS; intro H locs hP hD hS
      refine lv_aload_n hx hb dX10_back_30 rfl (lv_at hl 0 rfl) ?_
      obtain ⟨r_31, v_refusal_31, hc_31, hf⟩ := bd2 hf
      refine r_callVi (ws' := [(h, .inr (9, [.ref h_reader, .ref h_inn, .ref h_chosen, .ref h_night, .ref h_marks, .int v_marked, .ref h_notes, .ref h_casts, .int v_refusal_31, .int v_latestFault, .int v_faultPlace])), (h_marks, aQ E 3 (mk3 h_m0 h_m1 h_m2)), (h_m0, .inr (4, [va_rf v_m0_inn, .int v_m0_setting, .int v_m0_been, .ref h_m0_ways, .ref h_m0_how, .ref h_m0_passed, .ref h_m0_dreamOf, .ref h_m0_stateOf, .ref h_m0_roomOf, .ref h_m0_handOf, .ref h_m0_awake, .ref h_m0_thingIn, .ref h_m0_full, .ref h_m0_heardBy])), (h_night, .inr (4, [va_rf x_27, .int v_night_setting_27, .int v_night_been_27, .ref h_night_ways, .ref h_night_how, .ref h_night_passed, .ref h_night_dreamOf, .ref h_night_stateOf, .ref h_night_roomOf, .ref h_night_handOf, .ref h_night_awake, .ref h_night_thingIn, .ref h_night_full, .ref h_night_heardBy])), (h_m0_ways, .inr (8, [.ref h_m0_ways_steps, .int v_m0_ways_rooms])), (h_night_ways, .inr (8, [.ref h_night_ways_steps, .int v_night_ways_rooms_27])), (h_night_ways_steps, aI E 64 v_night_ways_steps_27), (h_m0_ways_steps, aI E 64 v_m0_ways_steps), (h_m0_how, aI E 10 v_m0_how), (h_night_how, aI E 10 v_night_how_27), (h_m0_passed, aI E 10 v_m0_passed), (h_night_passed, aI E 10 v_night_passed_27), (h_m0_dreamOf, aI E 3 v_m0_dreamOf), (h_night_dreamOf, aI E 3 v_night_dreamOf_27), (h_m0_stateOf, aI E 3 v_m0_stateOf), (h_night_stateOf, aI E 3 v_night_stateOf_27), (h_m0_roomOf, aI E 3 v_m0_roomOf), (h_night_roomOf, aI E 3 v_night_roomOf_27), (h_m0_handOf, aI E 3 v_m0_handOf), (h_night_handOf, aI E 3 v_night_handOf_27), (h_m0_awake, aZ E 3 v_m0_awake), (h_night_awake, aZ E 3 v_night_awake_27), (h_m0_thingIn, aI E 4 v_m0_thingIn), (h_night_thingIn, aI E 4 v_night_thingIn_27), (h_m0_full, aZ E 4 v_m0_full), (h_night_full, aZ E 4 v_night_full_27), (h_m0_heardBy, aJ E 3 v_m0_heardBy), (h_night_heardBy, aJ E 3 v_night_heardBy_27), (h_m1, .inr (4, [va_rf v_m1_inn, .int v_m1_setting, .int v_m1_been, .ref h_m1_ways, .ref h_m1_how, .ref h_m1_passed, .ref h_m1_dreamOf, .ref h_m1_stateOf, .ref h_m1_roomOf, .ref h_m1_handOf, .ref h_m1_awake, .ref h_m1_thingIn, .ref h_m1_full, .ref h_m1_heardBy])), (h_m1_ways, .inr (8, [.ref h_m1_ways_steps, .int v_m1_ways_rooms])), (h_m1_ways_steps, aI E 64 v_m1_ways_steps), (h_m1_how, aI E 10 v_m1_how), (h_m1_passed, aI E 10 v_m1_passed), (h_m1_dreamOf, aI E 3 v_m1_dreamOf), (h_m1_stateOf, aI E 3 v_m1_stateOf), (h_m1_roomOf, aI E 3 v_m1_roomOf), (h_m1_handOf, aI E 3 v_m1_handOf), (h_m1_awake, aZ E 3 v_m1_awake), (h_m1_thingIn, aI E 4 v_m1_thingIn), (h_m1_full, aZ E 4 v_m1_full), (h_m1_heardBy, aJ E 3 v_m1_heardBy), (h_m2, .inr (4, [va_rf v_m2_inn, .int v_m2_setting, .int v_m2_been, .ref h_m2_ways, .ref h_m2_how, .ref h_m2_passed, .ref h_m2_dreamOf, .ref h_m2_stateOf, .ref h_m2_roomOf, .ref h_m2_handOf, .ref h_m2_awake, .ref h_m2_thingIn, .ref h_m2_full, .ref h_m2_heardBy])), (h_m2_ways, .inr (8, [.ref h_m2_ways_steps, .int v_m2_ways_rooms])), (h_m2_ways_steps, aI E 64 v_m2_ways_steps), (h_m2_how, aI E 10 v_m2_how), (h_m2_passed, aI E 10 v_m2_passed), (h_m2_dreamOf, aI E 3 v_m2_dreamOf), (h_m2_stateOf, aI E 3 v_m2_stateOf), (h_m2_roomOf, aI E 3 v_m2_roomOf), (h_m2_handOf, aI E 3 v_m2_handOf), (h_m2_awake, aZ E 3 v_m2_awake), (h_m2_thingIn, aI E 4 v_m2_thingIn), (h_m2_full, aZ E 4 v_m2_full), (h_m2_heardBy, aJ E 3 v_m2_heardBy)]) (As := []) (rest := []) C (ctX10_agree l E h h_reader h_inn h_chosen h_night h_marks h_notes h_casts v_marked v_refusal v_latestFault v_faultPlace N r_31 v_refusal_31 hc_31) ml_X10_163 ⟨Nat.le_of_ble_eq_true rfl, Nat.le_of_ble_eq_true rfl⟩ hP hD hS 0 rfl rfl rfl [0] rfl rfl rfl rfl rfl hl.1 rfl (Nat.le_of_ble_eq_true rfl) ⟨Nat.zero_le _, Nat.zero_le _⟩ dX10_back_31 ?_
      clear hP hD hS; intro H locs hP hD hS
      obtain ⟨hz_34, hf⟩ := zg_s hf
      cases hf
      rw [hQ]
      exact r_zret C hr hP hD hS hz_34 rfl dX10_back_34
    · replace hf := it_f c_26_1 (it_f c_26_0 hf)
      obtain ⟨x_27, v_night_setting_27, v_night_been_27, v_night_ways_rooms_27, v_night_ways_steps_27, v_night_how_27, v_night_passed_27, v_night_dreamOf_27, v_night_stateOf_27, v_night_roomOf_27, v_night_handOf_27, v_night_awake_27, v_night_thingIn_27, v_night_full_27, v_night_heardBy_27, hc_27, hf⟩ := bd15 hf
      refine r_callVv (ws' := [(h, .inr (9, [.ref h_reader, .ref h_inn, .ref h_chosen, .ref h_night, .ref h_marks, .int v_marked, .ref h_notes, .ref h_casts, .int v_refusal, .int v_latestFault, .int v_faultPlace])), (h_marks, aQ E 3 (mk3 h_m0 h_m1 h_m2)), (h_m0, .inr (4, [va_rf v_m0_inn, .int v_m0_setting, .int v_m0_been, .ref h_m0_ways, .ref h_m0_how, .ref h_m0_passed, .ref h_m0_dreamOf, .ref h_m0_stateOf, .ref h_m0_roomOf, .ref h_m0_handOf, .ref h_m0_awake, .ref h_m0_thingIn, .ref h_m0_full, .ref h_m0_heardBy])), (h_night, .inr (4, [va_rf x_27, .int v_night_setting_27, .int v_night_been_27, .ref h_night_ways, .ref h_night_how, .ref h_night_passed, .ref h_night_dreamOf, .ref h_night_stateOf, .ref h_night_roomOf, .ref h_night_handOf, .ref h_night_awake, .ref h_night_thingIn, .ref h_night_full, .ref h_night_heardBy])), (h_m0_ways, .inr (8, [.ref h_m0_ways_steps, .int v_m0_ways_rooms])), (h_night_ways, .inr (8, [.ref h_night_ways_steps, .int v_night_ways_rooms_27])), (h_night_ways_steps, aI E 64 v_night_ways_steps_27), (h_m0_ways_steps, aI E 64 v_m0_ways_steps), (h_m0_how, aI E 10 v_m0_how), (h_night_how, aI E 10 v_night_how_27), (h_m0_passed, aI E 10 v_m0_passed), (h_night_passed, aI E 10 v_night_passed_27), (h_m0_dreamOf, aI E 3 v_m0_dreamOf), (h_night_dreamOf, aI E 3 v_night_dreamOf_27), (h_m0_stateOf, aI E 3 v_m0_stateOf), (h_night_stateOf, aI E 3 v_night_stateOf_27), (h_m0_roomOf, aI E 3 v_m0_roomOf), (h_night_roomOf, aI E 3 v_night_roomOf_27), (h_m0_handOf, aI E 3 v_m0_handOf), (h_night_handOf, aI E 3 v_night_handOf_27), (h_m0_awake, aZ E 3 v_m0_awake), (h_night_awake, aZ E 3 v_night_awake_27), (h_m0_thingIn, aI E 4 v_m0_thingIn), (h_night_thingIn, aI E 4 v_night_thingIn_27), (h_m0_full, aZ E 4 v_m0_full), (h_night_full, aZ E 4 v_night_full_27), (h_m0_heardBy, aJ E 3 v_m0_heardBy), (h_night_heardBy, aJ E 3 v_night_heardBy_27), (h_m1, .inr (4, [va_rf v_m1_inn, .int v_m1_setting, .int v_m1_been, .ref h_m1_ways, .ref h_m1_how, .ref h_m1_passed, .ref h_m1_dreamOf, .ref h_m1_stateOf, .ref h_m1_roomOf, .ref h_m1_handOf, .ref h_m1_awake, .ref h_m1_thingIn, .ref h_m1_full, .ref h_m1_heardBy])), (h_m1_ways, .inr (8, [.ref h_m1_ways_steps, .int v_m1_ways_rooms])), (h_m1_ways_steps, aI E 64 v_m1_ways_steps), (h_m1_how, aI E 10 v_m1_how), (h_m1_passed, aI E 10 v_m1_passed), (h_m1_dreamOf, aI E 3 v_m1_dreamOf), (h_m1_stateOf, aI E 3 v_m1_stateOf), (h_m1_roomOf, aI E 3 v_m1_roomOf), (h_m1_handOf, aI E 3 v_m1_handOf), (h_m1_awake, aZ E 3 v_m1_awake), (h_m1_thingIn, aI E 4 v_m1_thingIn), (h_m1_full, aZ E 4 v_m1_full), (h_m1_heardBy, aJ E 3 v_m1_heardBy), (h_m2, .inr (4, [va_rf v_m2_inn, .int v_m2_setting, .int v_m2_been, .ref h_m2_ways, .ref h_m2_how, .ref h_m2_passed, .ref h_m2_dreamOf, .ref h_m2_stateOf, .ref h_m2_roomOf, .ref h_m2_handOf, .ref h_m2_awake, .ref h_m2_thingIn, .ref h_m2_full, .ref h_m2_heardBy])), (h_m2_ways, .inr (8, [.ref h_m2_ways_steps, .int v_m2_ways_rooms])), (h_m2_ways_steps, aI E 64 v_m2_ways_steps), (h_m2_how, aI E 10 v_m2_how), (h_m2_passed, aI E 10 v_m2_passed), (h_m2_dreamOf, aI E 3 v_m2_dreamOf), (h_m2_stateOf, aI E 3 v_m2_stateOf), (h_m2_roomOf, aI E 3 v_m2_roomOf), (h_m2_handOf, aI E 3 v_m2_handOf), (h_m2_awake, aZ E 3 v_m2_awake), (h_m2_thingIn, aI E 4 v_m2_thingIn), (h_m2_full, aZ E 4 v_m2_full), (h_m2_heardBy, aJ E 3 v_m2_heardBy)]) (As := [.ref h_m2]) (rest := []) C (ctX4_become l E h_m2 h_m2_ways h_m2_how h_m2_passed h_m2_dreamOf h_m2_stateOf h_m2_roomOf h_m2_handOf h_m2_awake h_m2_thingIn h_m2_full h_m2_heardBy h_night h_night_ways h_night_how h_night_passed h_night_dreamOf h_night_stateOf h_night_roomOf h_night_handOf h_night_awake h_night_thingIn h_night_full h_night_heardBy h_m2_ways_steps h_night_ways_steps v_m2_inn v_m2_setting v_m2_been (some h_inn) v_night_setting v_night_been v_m2_ways_rooms v_night_ways_rooms v_night_ways_steps v_m2_ways_steps v_m2_how v_night_how v_m2_passed v_night_passed v_m2_dreamOf v_night_dreamOf v_m2_stateOf v_night_stateOf v_m2_roomOf v_night_roomOf v_m2_handOf v_night_handOf v_m2_awake v_night_awake v_m2_thingIn v_night_thingIn v_m2_full v_night_full v_m2_heardBy v_night_heardBy N x_27 v_night_setting_27 v_night_been_27 v_night_ways_rooms_27 v_night_ways_steps_27 v_night_how_27 v_night_passed_27 v_night_dreamOf_27 v_night_stateOf_27 v_night_roomOf_27 v_night_handOf_27 v_night_awake_27 v_night_thingIn_27 v_night_full_27 v_night_heardBy_27 hc_27) ml_X10_245 ⟨Nat.le_of_ble_eq_true rfl, Nat.le_of_ble_eq_true rfl⟩ hP hD hS 3 rfl rfl rfl [41, 3, 42, 5, 6, 43, 44, 9, 45, 11, 46, 13, 47, 15, 48, 17, 49, 19, 50, 21, 51, 23, 52, 25, 53, 27] rfl rfl rfl rfl rfl hl.1 rfl (Nat.le_of_ble_eq_true rfl) ⟨Nat.zero_le _, Nat.zero_le _⟩ dX10_back_27 ?_
      clear hP hD hS; intro H locs hP hD hS
      refine lv_aload_n hx hb dX10_back_30 rfl (lv_at hl 0 rfl) ?_
      obtain ⟨r_31, v_refusal_31, hc_31, hf⟩ := bd2 hf
      refine r_callVi (ws' := [(h, .inr (9, [.ref h_reader, .ref h_inn, .ref h_chosen, .ref h_night, .ref h_marks, .int v_marked, .ref h_notes, .ref h_casts, .int v_refusal_31, .int v_latestFault, .int v_faultPlace])), (h_marks, aQ E 3 (mk3 h_m0 h_m1 h_m2)), (h_m0, .inr (4, [va_rf v_m0_inn, .int v_m0_setting, .int v_m0_been, .ref h_m0_ways, .ref h_m0_how, .ref h_m0_passed, .ref h_m0_dreamOf, .ref h_m0_stateOf, .ref h_m0_roomOf, .ref h_m0_handOf, .ref h_m0_awake, .ref h_m0_thingIn, .ref h_m0_full, .ref h_m0_heardBy])), (h_night, .inr (4, [va_rf x_27, .int v_night_setting_27, .int v_night_been_27, .ref h_night_ways, .ref h_night_how, .ref h_night_passed, .ref h_night_dreamOf, .ref h_night_stateOf, .ref h_night_roomOf, .ref h_night_handOf, .ref h_night_awake, .ref h_night_thingIn, .ref h_night_full, .ref h_night_heardBy])), (h_m0_ways, .inr (8, [.ref h_m0_ways_steps, .int v_m0_ways_rooms])), (h_night_ways, .inr (8, [.ref h_night_ways_steps, .int v_night_ways_rooms_27])), (h_night_ways_steps, aI E 64 v_night_ways_steps_27), (h_m0_ways_steps, aI E 64 v_m0_ways_steps), (h_m0_how, aI E 10 v_m0_how), (h_night_how, aI E 10 v_night_how_27), (h_m0_passed, aI E 10 v_m0_passed), (h_night_passed, aI E 10 v_night_passed_27), (h_m0_dreamOf, aI E 3 v_m0_dreamOf), (h_night_dreamOf, aI E 3 v_night_dreamOf_27), (h_m0_stateOf, aI E 3 v_m0_stateOf), (h_night_stateOf, aI E 3 v_night_stateOf_27), (h_m0_roomOf, aI E 3 v_m0_roomOf), (h_night_roomOf, aI E 3 v_night_roomOf_27), (h_m0_handOf, aI E 3 v_m0_handOf), (h_night_handOf, aI E 3 v_night_handOf_27), (h_m0_awake, aZ E 3 v_m0_awake), (h_night_awake, aZ E 3 v_night_awake_27), (h_m0_thingIn, aI E 4 v_m0_thingIn), (h_night_thingIn, aI E 4 v_night_thingIn_27), (h_m0_full, aZ E 4 v_m0_full), (h_night_full, aZ E 4 v_night_full_27), (h_m0_heardBy, aJ E 3 v_m0_heardBy), (h_night_heardBy, aJ E 3 v_night_heardBy_27), (h_m1, .inr (4, [va_rf v_m1_inn, .int v_m1_setting, .int v_m1_been, .ref h_m1_ways, .ref h_m1_how, .ref h_m1_passed, .ref h_m1_dreamOf, .ref h_m1_stateOf, .ref h_m1_roomOf, .ref h_m1_handOf, .ref h_m1_awake, .ref h_m1_thingIn, .ref h_m1_full, .ref h_m1_heardBy])), (h_m1_ways, .inr (8, [.ref h_m1_ways_steps, .int v_m1_ways_rooms])), (h_m1_ways_steps, aI E 64 v_m1_ways_steps), (h_m1_how, aI E 10 v_m1_how), (h_m1_passed, aI E 10 v_m1_passed), (h_m1_dreamOf, aI E 3 v_m1_dreamOf), (h_m1_stateOf, aI E 3 v_m1_stateOf), (h_m1_roomOf, aI E 3 v_m1_roomOf), (h_m1_handOf, aI E 3 v_m1_handOf), (h_m1_awake, aZ E 3 v_m1_awake), (h_m1_thingIn, aI E 4 v_m1_thingIn), (h_m1_full, aZ E 4 v_m1_full), (h_m1_heardBy, aJ E 3 v_m1_heardBy), (h_m2, .inr (4, [va_rf v_m2_inn, .int v_m2_setting, .int v_m2_been, .ref h_m2_ways, .ref h_m2_how, .ref h_m2_passed, .ref h_m2_dreamOf, .ref h_m2_stateOf, .ref h_m2_roomOf, .ref h_m2_handOf, .ref h_m2_awake, .ref h_m2_thingIn, .ref h_m2_full, .ref h_m2_heardBy])), (h_m2_ways, .inr (8, [.ref h_m2_ways_steps, .int v_m2_ways_rooms])), (h_m2_ways_steps, aI E 64 v_m2_ways_steps), (h_m2_how, aI E 10 v_m2_how), (h_m2_passed, aI E 10 v_m2_passed), (h_m2_dreamOf, aI E 3 v_m2_dreamOf), (h_m2_stateOf, aI E 3 v_m2_stateOf), (h_m2_roomOf, aI E 3 v_m2_roomOf), (h_m2_handOf, aI E 3 v_m2_handOf), (h_m2_awake, aZ E 3 v_m2_awake), (h_m2_thingIn, aI E 4 v_m2_thingIn), (h_m2_full, aZ E 4 v_m2_full), (h_m2_heardBy, aJ E 3 v_m2_heardBy)]) (As := []) (rest := []) C (ctX10_agree l E h h_reader h_inn h_chosen h_night h_marks h_notes h_casts v_marked v_refusal v_latestFault v_faultPlace N r_31 v_refusal_31 hc_31) ml_X10_163 ⟨Nat.le_of_ble_eq_true rfl, Nat.le_of_ble_eq_true rfl⟩ hP hD hS 0 rfl rfl rfl [0] rfl rfl rfl rfl rfl hl.1 rfl (Nat.le_of_ble_eq_true rfl) ⟨Nat.zero_le _, Nat.zero_le _⟩ dX10_back_31 ?_
      clear hP hD hS; intro H locs hP hD hS
      obtain ⟨hz_34, hf⟩ := zg_s hf
      cases hf
      rw [hQ]
      exact r_zret C hr hP hD hS hz_34 rfl dX10_back_34
  · replace hf := it_t c_8 hf
    refine lv_aload_n hx hb dX10_back_11 rfl (lv_at hl 0 rfl) ?_
    refine lv_iconst (v := 1) hx hb dX10_back_12 (by decide) ?_
    obtain ⟨r_13, v_refusal_13, hc_13, hf⟩ := bd2 hf
    refine r_callVi (ws' := (wX10_back E h h_reader h_inn h_chosen h_night h_marks h_notes h_casts h_m0 h_m1 h_m2 h_m0_ways h_m0_how h_m0_passed h_m0_dreamOf h_m0_stateOf h_m0_roomOf h_m0_handOf h_m0_awake h_m0_thingIn h_m0_full h_m0_heardBy h_night_ways h_night_how h_night_passed h_night_dreamOf h_night_stateOf h_night_roomOf h_night_handOf h_night_awake h_night_thingIn h_night_full h_night_heardBy h_m0_ways_steps h_night_ways_steps h_m1_ways h_m1_how h_m1_passed h_m1_dreamOf h_m1_stateOf h_m1_roomOf h_m1_handOf h_m1_awake h_m1_thingIn h_m1_full h_m1_heardBy h_m1_ways_steps h_m2_ways h_m2_how h_m2_passed h_m2_dreamOf h_m2_stateOf h_m2_roomOf h_m2_handOf h_m2_awake h_m2_thingIn h_m2_full h_m2_heardBy h_m2_ways_steps v_marked v_refusal_13 v_latestFault v_faultPlace v_m0_inn v_m0_setting v_m0_been v_night_setting v_night_been v_m0_ways_rooms v_night_ways_rooms v_night_ways_steps v_m0_ways_steps v_m0_how v_night_how v_m0_passed v_night_passed v_m0_dreamOf v_night_dreamOf v_m0_stateOf v_night_stateOf v_m0_roomOf v_night_roomOf v_m0_handOf v_night_handOf v_m0_awake v_night_awake v_m0_thingIn v_night_thingIn v_m0_full v_night_full v_m0_heardBy v_night_heardBy v_m1_inn v_m1_setting v_m1_been v_m1_ways_rooms v_m1_ways_steps v_m1_how v_m1_passed v_m1_dreamOf v_m1_stateOf v_m1_roomOf v_m1_handOf v_m1_awake v_m1_thingIn v_m1_full v_m1_heardBy v_m2_inn v_m2_setting v_m2_been v_m2_ways_rooms v_m2_ways_steps v_m2_how v_m2_passed v_m2_dreamOf v_m2_stateOf v_m2_roomOf v_m2_handOf v_m2_awake v_m2_thingIn v_m2_full v_m2_heardBy)) (As := [.int 1]) (rest := []) C (ctX10_deny l E h h_reader h_inn h_chosen h_night h_marks h_notes h_casts v_marked v_refusal v_latestFault v_faultPlace N 1 r_13 v_refusal_13 hc_13) ml_X10_152 ⟨Nat.le_of_ble_eq_true rfl, Nat.le_of_ble_eq_true rfl⟩ hP hD hS 0 rfl rfl rfl [0] rfl rfl rfl rfl rfl hl.1 rfl (Nat.le_of_ble_eq_true rfl) ⟨Nat.zero_le _, Nat.zero_le _⟩ dX10_back_13 ?_
    clear hP hD hS; intro H locs hP hD hS
    obtain ⟨hz_16, hf⟩ := zg_s hf
    cases hf
    rw [hQ]
    exact r_zret C hr hP hD hS hz_16 rfl dX10_back_16
def wX10_isBook (E : EN) : va_W := []
def fX10_isBook (N : Nat) (p0 : Int32) : Option Int32 := (fX10_isBelow N p0 2).bind (un1 fun (r_2 : Int32) => zg r_2 (some r_2))
set_option maxHeartbeats 4000000 in
set_option maxRecDepth 100000 in
theorem ctX10_isBook (l : Launch) (E : EN) (N : Nat) (p0 : Int32) (z0 : Int32) (hf : fX10_isBook N p0 = some z0) : CTi l E yX10_isBook cX10_isBook 1 .boolean 1 21 [.int p0] (wX10_isBook E) z0 (wX10_isBook E) := by
  intro sz
  refine ct_body (by decide) (Nat.le_of_ble_eq_true rfl) ?_
  intro p e s m args below meth c A ls hAe C hr hin hP hD hS hl
  have C : CX p s m args meth c cX10_isBook RX10 1 E A := C
  have hl : lv_has ls 1 [(0, .int p0)] := hl
  have hx := C.1
  have hb := C.2.1
  rw [hAe]
  clear hAe
  obtain ⟨Q, hQ⟩ : ∃ Q, Q = MQ below (Qi E A z0 (wX10_isBook E)) args s 0 0 A := ⟨_, rfl⟩
  rw [← hQ]
  unfold fX10_isBook at hf
  refine lv_iload_n hx hb dX10_isBook_0 rfl (lv_at hl 0 rfl) ?_
  refine lv_iconst (v := 2) hx hb dX10_isBook_1 (by decide) ?_
  obtain ⟨r_2, hc_2, hf⟩ := bd1 hf
  refine r_callSi (ws' := (wX10_isBook E)) (As := [.int p0, .int 2]) (rest := []) C (ctX10_isBelow l E N p0 2 r_2 hc_2) ml_X10_121 ⟨Nat.le_of_ble_eq_true rfl, Nat.le_of_ble_eq_true rfl⟩ hP hD hS [] rfl rfl rfl rfl rfl hl.1 rfl (Nat.le_of_ble_eq_true rfl) ⟨Nat.zero_le _, Nat.zero_le _⟩ dX10_isBook_2 ?_
  clear hP hD hS; intro H locs hP hD hS
  obtain ⟨hz_5, hf⟩ := zg_s hf
  cases hf
  rw [hQ]
  exact r_zret C hr hP hD hS hz_5 rfl dX10_isBook_5
def wX5_add (E : EN) (h h_book h_sort h_one h_other : Nat) (v_count : Int32) (v_book : Nat → Int32) (v_sort : Nat → Int32) (v_one : Nat → Int32) (v_other : Nat → Int32) : va_W := [(h, .inr (5, [.ref h_book, .ref h_sort, .ref h_one, .ref h_other, .int v_count])), (h_book, aI E 20 v_book), (h_sort, aI E 20 v_sort), (h_one, aI E 20 v_one), (h_other, aI E 20 v_other)]
def fX5_add (N : Nat) (p0 : Int32) (p1 : Int32) (p2 : Int32) (p3 : Int32) (v_count : Int32) (v_book : Nat → Int32) (v_sort : Nat → Int32) (v_one : Nat → Int32) (v_other : Nat → Int32) : Option (Int32 × (Nat → Int32) × (Nat → Int32) × (Nat → Int32) × (Nat → Int32)) := gd v_count 20 (gd v_count 20 (gd v_count 20 (gd v_count 20 (some (v_count + 1, upd v_book v_count.toNatClampNeg p0, upd v_sort v_count.toNatClampNeg p1, upd v_one v_count.toNatClampNeg p2, upd v_other v_count.toNatClampNeg p3)))))
set_option maxHeartbeats 4000000 in
set_option maxRecDepth 100000 in
theorem ctX5_add (l : Launch) (E : EN) (h h_book h_sort h_one h_other : Nat) (v_count : Int32) (v_book : Nat → Int32) (v_sort : Nat → Int32) (v_one : Nat → Int32) (v_other : Nat → Int32) (N : Nat) (p0 : Int32) (p1 : Int32) (p2 : Int32) (p3 : Int32) (z0 : Int32) (z1 : Nat → Int32) (z2 : Nat → Int32) (z3 : Nat → Int32) (z4 : Nat → Int32) (hf : fX5_add N p0 p1 p2 p3 v_count v_book v_sort v_one v_other = some (z0, z1, z2, z3, z4)) : CTv l E yX5_add cX5_add 5 0 0 [.ref h, .int p0, .int p1, .int p2, .int p3] (wX5_add E h h_book h_sort h_one h_other v_count v_book v_sort v_one v_other) (wX5_add E h h_book h_sort h_one h_other z0 z1 z2 z3 z4) := by
  intro sz
  refine ct_body (by decide) (Nat.le_of_ble_eq_true rfl) ?_
  intro p e s m args below meth c A ls hAe C hr hin hP hD hS hl
  have C : CX p s m args meth c cX5_add RX5 5 E A := C
  have hl : lv_has ls 5 [(0, .ref h), (1, .int p0), (2, .int p1), (3, .int p2), (4, .int p3)] := hl
  have hx := C.1
  have hb := C.2.1
  rw [hAe]
  clear hAe
  obtain ⟨Q, hQ⟩ : ∃ Q, Q = MQ below (Qv E A (wX5_add E h h_book h_sort h_one h_other z0 z1 z2 z3 z4)) args s 0 0 A := ⟨_, rfl⟩
  rw [← hQ]
  unfold fX5_add at hf
  refine lv_aload_n hx hb dX5_add_0 rfl (lv_at hl 0 rfl) ?_
  refine r_get C hP 0 rfl fl_X5_9 rfl dX5_add_1 ?_
  refine lv_aload_n hx hb dX5_add_4 rfl (lv_at hl 0 rfl) ?_
  refine r_get C hP 0 rfl fl_X5_24 rfl dX5_add_5 ?_
  refine lv_iload_n hx hb dX5_add_8 rfl (lv_at hl 1 rfl) ?_
  obtain ⟨hi_9, hf⟩ := gd_s hf
  refine r_iast (ws' := (wX5_add E h h_book h_sort h_one h_other v_count (upd v_book v_count.toNatClampNeg p0) v_sort v_one v_other)) C hP hD hS 1 rfl hi_9 rfl dX5_add_9 ?_
  clear hP hD hS; intro H locs hP hD hS
  refine lv_aload_n hx hb dX5_add_10 rfl (lv_at hl 0 rfl) ?_
  refine r_get C hP 0 rfl fl_X5_15 rfl dX5_add_11 ?_
  refine lv_aload_n hx hb dX5_add_14 rfl (lv_at hl 0 rfl) ?_
  refine r_get C hP 0 rfl fl_X5_24 rfl dX5_add_15 ?_
  refine lv_iload_n hx hb dX5_add_18 rfl (lv_at hl 2 rfl) ?_
  obtain ⟨hi_19, hf⟩ := gd_s hf
  refine r_iast (ws' := (wX5_add E h h_book h_sort h_one h_other v_count (upd v_book v_count.toNatClampNeg p0) (upd v_sort v_count.toNatClampNeg p1) v_one v_other)) C hP hD hS 2 rfl hi_19 rfl dX5_add_19 ?_
  clear hP hD hS; intro H locs hP hD hS
  refine lv_aload_n hx hb dX5_add_20 rfl (lv_at hl 0 rfl) ?_
  refine r_get C hP 0 rfl fl_X5_18 rfl dX5_add_21 ?_
  refine lv_aload_n hx hb dX5_add_24 rfl (lv_at hl 0 rfl) ?_
  refine r_get C hP 0 rfl fl_X5_24 rfl dX5_add_25 ?_
  refine lv_iload_n hx hb dX5_add_28 rfl (lv_at hl 3 rfl) ?_
  obtain ⟨hi_29, hf⟩ := gd_s hf
  refine r_iast (ws' := (wX5_add E h h_book h_sort h_one h_other v_count (upd v_book v_count.toNatClampNeg p0) (upd v_sort v_count.toNatClampNeg p1) (upd v_one v_count.toNatClampNeg p2) v_other)) C hP hD hS 3 rfl hi_29 rfl dX5_add_29 ?_
  clear hP hD hS; intro H locs hP hD hS
  refine lv_aload_n hx hb dX5_add_30 rfl (lv_at hl 0 rfl) ?_
  refine r_get C hP 0 rfl fl_X5_21 rfl dX5_add_31 ?_
  refine lv_aload_n hx hb dX5_add_34 rfl (lv_at hl 0 rfl) ?_
  refine r_get C hP 0 rfl fl_X5_24 rfl dX5_add_35 ?_
  refine lv_iload hx hb dX5_add_38 (lv_at hl 4 rfl) ?_
  obtain ⟨hi_40, hf⟩ := gd_s hf
  refine r_iast (ws' := (wX5_add E h h_book h_sort h_one h_other v_count (upd v_book v_count.toNatClampNeg p0) (upd v_sort v_count.toNatClampNeg p1) (upd v_one v_count.toNatClampNeg p2) (upd v_other v_count.toNatClampNeg p3))) C hP hD hS 4 rfl hi_40 rfl dX5_add_40 ?_
  clear hP hD hS; intro H locs hP hD hS
  refine lv_aload_n hx hb dX5_add_41 rfl (lv_at hl 0 rfl) ?_
  refine lv_dup hx hb dX5_add_42 rfl ?_
  refine r_get C hP 0 rfl fl_X5_24 rfl dX5_add_43 ?_
  refine lv_iconst (v := 1) hx hb dX5_add_46 (by decide) ?_
  refine lv_iadd hx hb dX5_add_47 ?_
  refine r_put (ws' := (wX5_add E h h_book h_sort h_one h_other (v_count + 1) (upd v_book v_count.toNatClampNeg p0) (upd v_sort v_count.toNatClampNeg p1) (upd v_one v_count.toNatClampNeg p2) (upd v_other v_count.toNatClampNeg p3))) C hP hD hS 0 rfl fl_X5_24 rfl rfl (by decide) rfl dX5_add_48 ?_
  clear hP hD hS; intro H locs hP hD hS
  cases hf
  rw [hQ]
  exact r_vret C hr hP hD hS dX5_add_51
def wX10_write (E : EN) (h h_reader h_inn h_chosen h_night h_marks h_notes h_casts h_notes_book h_notes_sort h_notes_one h_notes_other : Nat) (v_marked : Int32) (v_refusal : Int32) (v_latestFault : Int32) (v_faultPlace : Int32) (v_notes_count : Int32) (v_notes_book : Nat → Int32) (v_notes_sort : Nat → Int32) (v_notes_one : Nat → Int32) (v_notes_other : Nat → Int32) : va_W := [(h, .inr (9, [.ref h_reader, .ref h_inn, .ref h_chosen, .ref h_night, .ref h_marks, .int v_marked, .ref h_notes, .ref h_casts, .int v_refusal, .int v_latestFault, .int v_faultPlace])), (h_notes, .inr (5, [.ref h_notes_book, .ref h_notes_sort, .ref h_notes_one, .ref h_notes_other, .int v_notes_count])), (h_notes_book, aI E 20 v_notes_book), (h_notes_sort, aI E 20 v_notes_sort), (h_notes_one, aI E 20 v_notes_one), (h_notes_other, aI E 20 v_notes_other)]
def fX10_write (N : Nat) (p0 : Int32) (p1 : Int32) (p2 : Int32) (p3 : Int32) (v_notes_count : Int32) (v_notes_book : Nat → Int32) (v_notes_sort : Nat → Int32) (v_notes_one : Nat → Int32) (v_notes_other : Nat → Int32) : Option (Int32 × Int32 × Int32 × (Nat → Int32) × (Nat → Int32) × (Nat → Int32) × (Nat → Int32)) := if v_notes_count < 20 then ((fX5_add N p0 p1 p2 p3 v_notes_count v_notes_book v_notes_sort v_notes_one v_notes_other).bind (un5 fun (v_notes_count_27 : Int32) (v_notes_book_27 : Nat → Int32) (v_notes_sort_27 : Nat → Int32) (v_notes_one_27 : Nat → Int32) (v_notes_other_27 : Nat → Int32) => (fX10_answer N v_notes_count_27).bind (un2 fun (r_38 : Int32) (v_refusal_38 : Int32) => some (r_38, v_refusal_38, v_notes_count_27, v_notes_book_27, v_notes_sort_27, v_notes_one_27, v_notes_other_27)))) else ((fX10_refuse N 3).bind (un2 fun (r_14 : Int32) (v_refusal_14 : Int32) => some (r_14, v_refusal_14, v_notes_count, v_notes_book, v_notes_sort, v_notes_one, v_notes_other)))
set_option maxHeartbeats 4000000 in
set_option maxRecDepth 100000 in
theorem ctX10_write (l : Launch) (E : EN) (h h_reader h_inn h_chosen h_night h_marks h_notes h_casts h_notes_book h_notes_sort h_notes_one h_notes_other : Nat) (v_marked : Int32) (v_refusal : Int32) (v_latestFault : Int32) (v_faultPlace : Int32) (v_notes_count : Int32) (v_notes_book : Nat → Int32) (v_notes_sort : Nat → Int32) (v_notes_one : Nat → Int32) (v_notes_other : Nat → Int32) (N : Nat) (p0 : Int32) (p1 : Int32) (p2 : Int32) (p3 : Int32) (z0 : Int32) (z1 : Int32) (z2 : Int32) (z3 : Nat → Int32) (z4 : Nat → Int32) (z5 : Nat → Int32) (z6 : Nat → Int32) (hf : fX10_write N p0 p1 p2 p3 v_notes_count v_notes_book v_notes_sort v_notes_one v_notes_other = some (z0, z1, z2, z3, z4, z5, z6)) : CTi l E yX10_write cX10_write 5 .int 1 24 [.ref h, .int p0, .int p1, .int p2, .int p3] (wX10_write E h h_reader h_inn h_chosen h_night h_marks h_notes h_casts h_notes_book h_notes_sort h_notes_one h_notes_other v_marked v_refusal v_latestFault v_faultPlace v_notes_count v_notes_book v_notes_sort v_notes_one v_notes_other) z0 (wX10_write E h h_reader h_inn h_chosen h_night h_marks h_notes h_casts h_notes_book h_notes_sort h_notes_one h_notes_other v_marked z1 v_latestFault v_faultPlace z2 z3 z4 z5 z6) := by
  intro sz
  refine ct_body (by decide) (Nat.le_of_ble_eq_true rfl) ?_
  intro p e s m args below meth c A ls hAe C hr hin hP hD hS hl
  have C : CX p s m args meth c cX10_write RX10 5 E A := C
  have hl : lv_has ls 5 [(0, .ref h), (1, .int p0), (2, .int p1), (3, .int p2), (4, .int p3)] := hl
  have hx := C.1
  have hb := C.2.1
  rw [hAe]
  clear hAe
  obtain ⟨Q, hQ⟩ : ∃ Q, Q = MQ below (Qi E A z0 (wX10_write E h h_reader h_inn h_chosen h_night h_marks h_notes h_casts h_notes_book h_notes_sort h_notes_one h_notes_other v_marked z1 v_latestFault v_faultPlace z2 z3 z4 z5 z6)) args s 0 0 A := ⟨_, rfl⟩
  rw [← hQ]
  unfold fX10_write at hf
  refine lv_aload_n hx hb dX10_write_0 rfl (lv_at hl 0 rfl) ?_
  refine r_get C hP 0 rfl fl_X10_43 rfl dX10_write_1 ?_
  refine r_get C hP 1 rfl fl_X10_256 rfl dX10_write_4 ?_
  refine lv_bipush (v := 20) hx hb dX10_write_7 (by decide) ?_
  refine lv_icmp_lt (tgt := 18) hx hb dX10_write_9 (by decide) (fun c_9 => ?_) (fun c_9 => ?_)
  · replace hf := it_t c_9 hf
    refine lv_aload_n hx hb dX10_write_18 rfl (lv_at hl 0 rfl) ?_
    refine r_get C hP 0 rfl fl_X10_43 rfl dX10_write_19 ?_
    refine lv_iload_n hx hb dX10_write_22 rfl (lv_at hl 1 rfl) ?_
    refine lv_iload_n hx hb dX10_write_23 rfl (lv_at hl 2 rfl) ?_
    refine lv_iload_n hx hb dX10_write_24 rfl (lv_at hl 3 rfl) ?_
    refine lv_iload hx hb dX10_write_25 (lv_at hl 4 rfl) ?_
    obtain ⟨v_notes_count_27, v_notes_book_27, v_notes_sort_27, v_notes_one_27, v_notes_other_27, hc_27, hf⟩ := bd5 hf
    refine r_callVv (ws' := (wX10_write E h h_reader h_inn h_chosen h_night h_marks h_notes h_casts h_notes_book h_notes_sort h_notes_one h_notes_other v_marked v_refusal v_latestFault v_faultPlace v_notes_count_27 v_notes_book_27 v_notes_sort_27 v_notes_one_27 v_notes_other_27)) (As := [.int p0, .int p1, .int p2, .int p3]) (rest := []) C (ctX5_add l E h_notes h_notes_book h_notes_sort h_notes_one h_notes_other v_notes_count v_notes_book v_notes_sort v_notes_one v_notes_other N p0 p1 p2 p3 v_notes_count_27 v_notes_book_27 v_notes_sort_27 v_notes_one_27 v_notes_other_27 hc_27) ml_X10_332 ⟨Nat.le_of_ble_eq_true rfl, Nat.le_of_ble_eq_true rfl⟩ hP hD hS 1 rfl rfl rfl [1, 2, 3, 4, 5] rfl rfl rfl rfl rfl hl.1 rfl (Nat.le_of_ble_eq_true rfl) ⟨Nat.zero_le _, Nat.zero_le _⟩ dX10_write_27 ?_
    clear hP hD hS; intro H locs hP hD hS
    refine lv_aload_n hx hb dX10_write_30 rfl (lv_at hl 0 rfl) ?_
    refine lv_aload_n hx hb dX10_write_31 rfl (lv_at hl 0 rfl) ?_
    refine r_get C hP 0 rfl fl_X10_43 rfl dX10_write_32 ?_
    refine r_get C hP 1 rfl fl_X10_256 rfl dX10_write_35 ?_
    obtain ⟨r_38, v_refusal_38, hc_38, hf⟩ := bd2 hf
    refine r_callVi (ws' := (wX10_write E h h_reader h_inn h_chosen h_night h_marks h_notes h_casts h_notes_book h_notes_sort h_notes_one h_notes_other v_marked v_refusal_38 v_latestFault v_faultPlace v_notes_count_27 v_notes_book_27 v_notes_sort_27 v_notes_one_27 v_notes_other_27)) (As := [.int v_notes_count_27]) (rest := []) C (ctX10_answer l E h h_reader h_inn h_chosen h_night h_marks h_notes h_casts v_marked v_refusal v_latestFault v_faultPlace N v_notes_count_27 r_38 v_refusal_38 hc_38) ml_X10_95 ⟨Nat.le_of_ble_eq_true rfl, Nat.le_of_ble_eq_true rfl⟩ hP hD hS 0 rfl rfl rfl [0] rfl rfl rfl rfl rfl hl.1 rfl (Nat.le_of_ble_eq_true rfl) ⟨Nat.zero_le _, Nat.zero_le _⟩ dX10_write_38 ?_
    clear hP hD hS; intro H locs hP hD hS
    cases hf
    rw [hQ]
    exact r_iret C hr hP hD hS rfl dX10_write_41
  · replace hf := it_f c_9 hf
    refine lv_aload_n hx hb dX10_write_12 rfl (lv_at hl 0 rfl) ?_
    refine lv_iconst (v := 3) hx hb dX10_write_13 (by decide) ?_
    obtain ⟨r_14, v_refusal_14, hc_14, hf⟩ := bd2 hf
    refine r_callVi (ws' := (wX10_write E h h_reader h_inn h_chosen h_night h_marks h_notes h_casts h_notes_book h_notes_sort h_notes_one h_notes_other v_marked v_refusal_14 v_latestFault v_faultPlace v_notes_count v_notes_book v_notes_sort v_notes_one v_notes_other)) (As := [.int 3]) (rest := []) C (ctX10_refuse l E h h_reader h_inn h_chosen h_night h_marks h_notes h_casts v_marked v_refusal v_latestFault v_faultPlace N 3 r_14 v_refusal_14 hc_14) ml_X10_68 ⟨Nat.le_of_ble_eq_true rfl, Nat.le_of_ble_eq_true rfl⟩ hP hD hS 0 rfl rfl rfl [0] rfl rfl rfl rfl rfl hl.1 rfl (Nat.le_of_ble_eq_true rfl) ⟨Nat.zero_le _, Nat.zero_le _⟩ dX10_write_14 ?_
    clear hP hD hS; intro H locs hP hD hS
    cases hf
    rw [hQ]
    exact r_iret C hr hP hD hS rfl dX10_write_17
def wX10_noteHeard (E : EN) (h h_reader h_inn h_chosen h_night h_marks h_notes h_casts h_inn_house h_inn_thingIn h_inn_full h_inn_states h_inn_bed h_inn_dreamOf h_inn_listensIn h_notes_book h_notes_sort h_notes_one h_notes_other : Nat) (v_marked : Int32) (v_refusal : Int32) (v_latestFault : Int32) (v_faultPlace : Int32) (v_inn_minutes : Int32) (v_inn_things : Int32) (v_inn_dreams : Int32) (v_inn_sleepers : Int32) (v_inn_listeners : Int32) (v_notes_count : Int32) (v_notes_book : Nat → Int32) (v_notes_sort : Nat → Int32) (v_notes_one : Nat → Int32) (v_notes_other : Nat → Int32) : va_W := [(h, .inr (9, [.ref h_reader, .ref h_inn, .ref h_chosen, .ref h_night, .ref h_marks, .int v_marked, .ref h_notes, .ref h_casts, .int v_refusal, .int v_latestFault, .int v_faultPlace])), (h_inn, .inr (2, [.ref h_inn_house, .int v_inn_minutes, .int v_inn_things, .ref h_inn_thingIn, .ref h_inn_full, .int v_inn_dreams, .ref h_inn_states, .int v_inn_sleepers, .ref h_inn_bed, .ref h_inn_dreamOf, .int v_inn_listeners, .ref h_inn_listensIn])), (h_notes, .inr (5, [.ref h_notes_book, .ref h_notes_sort, .ref h_notes_one, .ref h_notes_other, .int v_notes_count])), (h_notes_book, aI E 20 v_notes_book), (h_notes_sort, aI E 20 v_notes_sort), (h_notes_one, aI E 20 v_notes_one), (h_notes_other, aI E 20 v_notes_other)]
def fX10_noteHeard (N : Nat) (p0 : Int32) (p1 : Int32) (p2 : Int32) (p3 : Int32) (v_inn_minutes : Int32) (v_inn_listeners : Int32) (v_notes_count : Int32) (v_notes_book : Nat → Int32) (v_notes_sort : Nat → Int32) (v_notes_one : Nat → Int32) (v_notes_other : Nat → Int32) : Option (Int32 × Int32 × Int32 × (Nat → Int32) × (Nat → Int32) × (Nat → Int32) × (Nat → Int32)) := (fX10_isBook N p0).bind (un1 fun (r_1 : Int32) => if r_1 = 0 then ((fX10_refuse N 1).bind (un2 fun (r_17 : Int32) (v_refusal_17 : Int32) => some (r_17, v_refusal_17, v_notes_count, v_notes_book, v_notes_sort, v_notes_one, v_notes_other))) else ((fX10_isListener N p1 v_inn_listeners).bind (un1 fun (r_9 : Int32) => if r_9 = 0 then ((fX10_refuse N 1).bind (un2 fun (r_17 : Int32) (v_refusal_17 : Int32) => some (r_17, v_refusal_17, v_notes_count, v_notes_book, v_notes_sort, v_notes_one, v_notes_other))) else (if p2 < 1 then ((fX10_refuse N 2).bind (un2 fun (r_39 : Int32) (v_refusal_39 : Int32) => some (r_39, v_refusal_39, v_notes_count, v_notes_book, v_notes_sort, v_notes_one, v_notes_other))) else (if p2 ≤ v_inn_minutes then (if p3 = 0 then ((fX10_write N p0 1 p1 p2 v_notes_count v_notes_book v_notes_sort v_notes_one v_notes_other).bind (un7 fun (r_57 : Int32) (v_refusal_57 : Int32) (v_notes_count_57 : Int32) (v_notes_book_57 : Nat → Int32) (v_notes_sort_57 : Nat → Int32) (v_notes_one_57 : Nat → Int32) (v_notes_other_57 : Nat → Int32) => some (r_57, v_refusal_57, v_notes_count_57, v_notes_book_57, v_notes_sort_57, v_notes_one_57, v_notes_other_57))) else ((fX10_write N p0 0 p1 p2 v_notes_count v_notes_book v_notes_sort v_notes_one v_notes_other).bind (un7 fun (r_57 : Int32) (v_refusal_57 : Int32) (v_notes_count_57 : Int32) (v_notes_book_57 : Nat → Int32) (v_notes_sort_57 : Nat → Int32) (v_notes_one_57 : Nat → Int32) (v_notes_other_57 : Nat → Int32) => some (r_57, v_refusal_57, v_notes_count_57, v_notes_book_57, v_notes_sort_57, v_notes_one_57, v_notes_other_57)))) else ((fX10_refuse N 2).bind (un2 fun (r_39 : Int32) (v_refusal_39 : Int32) => some (r_39, v_refusal_39, v_notes_count, v_notes_book, v_notes_sort, v_notes_one, v_notes_other))))))))
set_option maxHeartbeats 4000000 in
set_option maxRecDepth 100000 in
theorem ctX10_noteHeard (l : Launch) (E : EN) (h h_reader h_inn h_chosen h_night h_marks h_notes h_casts h_inn_house h_inn_thingIn h_inn_full h_inn_states h_inn_bed h_inn_dreamOf h_inn_listensIn h_notes_book h_notes_sort h_notes_one h_notes_other : Nat) (v_marked : Int32) (v_refusal : Int32) (v_latestFault : Int32) (v_faultPlace : Int32) (v_inn_minutes : Int32) (v_inn_things : Int32) (v_inn_dreams : Int32) (v_inn_sleepers : Int32) (v_inn_listeners : Int32) (v_notes_count : Int32) (v_notes_book : Nat → Int32) (v_notes_sort : Nat → Int32) (v_notes_one : Nat → Int32) (v_notes_other : Nat → Int32) (N : Nat) (p0 : Int32) (p1 : Int32) (p2 : Int32) (p3 : Int32) (z0 : Int32) (z1 : Int32) (z2 : Int32) (z3 : Nat → Int32) (z4 : Nat → Int32) (z5 : Nat → Int32) (z6 : Nat → Int32) (hf : fX10_noteHeard N p0 p1 p2 p3 v_inn_minutes v_inn_listeners v_notes_count v_notes_book v_notes_sort v_notes_one v_notes_other = some (z0, z1, z2, z3, z4, z5, z6)) : CTi l E yX10_noteHeard cX10_noteHeard 5 .int 2 48 [.ref h, .int p0, .int p1, .int p2, .int p3] (wX10_noteHeard E h h_reader h_inn h_chosen h_night h_marks h_notes h_casts h_inn_house h_inn_thingIn h_inn_full h_inn_states h_inn_bed h_inn_dreamOf h_inn_listensIn h_notes_book h_notes_sort h_notes_one h_notes_other v_marked v_refusal v_latestFault v_faultPlace v_inn_minutes v_inn_things v_inn_dreams v_inn_sleepers v_inn_listeners v_notes_count v_notes_book v_notes_sort v_notes_one v_notes_other) z0 (wX10_noteHeard E h h_reader h_inn h_chosen h_night h_marks h_notes h_casts h_inn_house h_inn_thingIn h_inn_full h_inn_states h_inn_bed h_inn_dreamOf h_inn_listensIn h_notes_book h_notes_sort h_notes_one h_notes_other v_marked z1 v_latestFault v_faultPlace v_inn_minutes v_inn_things v_inn_dreams v_inn_sleepers v_inn_listeners z2 z3 z4 z5 z6) := by
  intro sz
  refine ct_body (by decide) (Nat.le_of_ble_eq_true rfl) ?_
  intro p e s m args below meth c A ls hAe C hr hin hP hD hS hl
  have C : CX p s m args meth c cX10_noteHeard RX10 5 E A := C
  have hl : lv_has ls 5 [(0, .ref h), (1, .int p0), (2, .int p1), (3, .int p2), (4, .int p3)] := hl
  have hx := C.1
  have hb := C.2.1
  rw [hAe]
  clear hAe
  obtain ⟨Q, hQ⟩ : ∃ Q, Q = MQ below (Qi E A z0 (wX10_noteHeard E h h_reader h_inn h_chosen h_night h_marks h_notes h_casts h_inn_house h_inn_thingIn h_inn_full h_inn_states h_inn_bed h_inn_dreamOf h_inn_listensIn h_notes_book h_notes_sort h_notes_one h_notes_other v_marked z1 v_latestFault v_faultPlace v_inn_minutes v_inn_things v_inn_dreams v_inn_sleepers v_inn_listeners z2 z3 z4 z5 z6)) args s 0 0 A := ⟨_, rfl⟩
  rw [← hQ]
  unfold fX10_noteHeard at hf
  refine lv_iload_n hx hb dX10_noteHeard_0 rfl (lv_at hl 1 rfl) ?_
  obtain ⟨r_1, hc_1, hf⟩ := bd1 hf
  refine r_callSi (ws' := (wX10_noteHeard E h h_reader h_inn h_chosen h_night h_marks h_notes h_casts h_inn_house h_inn_thingIn h_inn_full h_inn_states h_inn_bed h_inn_dreamOf h_inn_listensIn h_notes_book h_notes_sort h_notes_one h_notes_other v_marked v_refusal v_latestFault v_faultPlace v_inn_minutes v_inn_things v_inn_dreams v_inn_sleepers v_inn_listeners v_notes_count v_notes_book v_notes_sort v_notes_one v_notes_other)) (As := [.int p0]) (rest := []) C (ctX10_isBook l E N p0 r_1 hc_1) ml_X10_249 ⟨Nat.le_of_ble_eq_true rfl, Nat.le_of_ble_eq_true rfl⟩ hP hD hS [] rfl rfl rfl rfl rfl hl.1 rfl (Nat.le_of_ble_eq_true rfl) ⟨Nat.zero_le _, Nat.zero_le _⟩ dX10_noteHeard_1 ?_
  clear hP hD hS; intro H locs hP hD hS
  refine lv_if_eq (tgt := 15) hx hb dX10_noteHeard_4 (by decide) (fun c_4 => ?_) (fun c_4 => ?_)
  · replace hf := it_t c_4 hf
    refine lv_aload_n hx hb dX10_noteHeard_15 rfl (lv_at hl 0 rfl) ?_
    refine lv_iconst (v := 1) hx hb dX10_noteHeard_16 (by decide) ?_
    obtain ⟨r_17, v_refusal_17, hc_17, hf⟩ := bd2 hf
    refine r_callVi (ws' := (wX10_noteHeard E h h_reader h_inn h_chosen h_night h_marks h_notes h_casts h_inn_house h_inn_thingIn h_inn_full h_inn_states h_inn_bed h_inn_dreamOf h_inn_listensIn h_notes_book h_notes_sort h_notes_one h_notes_other v_marked v_refusal_17 v_latestFault v_faultPlace v_inn_minutes v_inn_things v_inn_dreams v_inn_sleepers v_inn_listeners v_notes_count v_notes_book v_notes_sort v_notes_one v_notes_other)) (As := [.int 1]) (rest := []) C (ctX10_refuse l E h h_reader h_inn h_chosen h_night h_marks h_notes h_casts v_marked v_refusal v_latestFault v_faultPlace N 1 r_17 v_refusal_17 hc_17) ml_X10_68 ⟨Nat.le_of_ble_eq_true rfl, Nat.le_of_ble_eq_true rfl⟩ hP hD hS 0 rfl rfl rfl [0] rfl rfl rfl rfl rfl hl.1 rfl (Nat.le_of_ble_eq_true rfl) ⟨Nat.zero_le _, Nat.zero_le _⟩ dX10_noteHeard_17 ?_
    clear hP hD hS; intro H locs hP hD hS
    cases hf
    rw [hQ]
    exact r_iret C hr hP hD hS rfl dX10_noteHeard_20
  · replace hf := it_f c_4 hf
    refine lv_aload_n hx hb dX10_noteHeard_7 rfl (lv_at hl 0 rfl) ?_
    refine lv_iload_n hx hb dX10_noteHeard_8 rfl (lv_at hl 2 rfl) ?_
    obtain ⟨r_9, hc_9, hf⟩ := bd1 hf
    refine r_callVi (ws' := (wX10_noteHeard E h h_reader h_inn h_chosen h_night h_marks h_notes h_casts h_inn_house h_inn_thingIn h_inn_full h_inn_states h_inn_bed h_inn_dreamOf h_inn_listensIn h_notes_book h_notes_sort h_notes_one h_notes_other v_marked v_refusal v_latestFault v_faultPlace v_inn_minutes v_inn_things v_inn_dreams v_inn_sleepers v_inn_listeners v_notes_count v_notes_book v_notes_sort v_notes_one v_notes_other)) (As := [.int p1]) (rest := []) C (ctX10_isListener l E h h_reader h_inn h_chosen h_night h_marks h_notes h_casts h_inn_house h_inn_thingIn h_inn_full h_inn_states h_inn_bed h_inn_dreamOf h_inn_listensIn v_marked v_refusal v_latestFault v_faultPlace v_inn_minutes v_inn_things v_inn_dreams v_inn_sleepers v_inn_listeners N p1 r_9 hc_9) ml_X10_222 ⟨Nat.le_of_ble_eq_true rfl, Nat.le_of_ble_eq_true rfl⟩ hP hD hS 0 rfl rfl rfl [0, 1] rfl rfl rfl rfl rfl hl.1 rfl (Nat.le_of_ble_eq_true rfl) ⟨Nat.zero_le _, Nat.zero_le _⟩ dX10_noteHeard_9 ?_
    clear hP hD hS; intro H locs hP hD hS
    refine lv_if_ne (tgt := 21) hx hb dX10_noteHeard_12 (by decide) (fun c_12 => ?_) (fun c_12 => ?_)
    · replace hf := it_f c_12 hf
      refine lv_iload_n hx hb dX10_noteHeard_21 rfl (lv_at hl 3 rfl) ?_
      refine lv_iconst (v := 1) hx hb dX10_noteHeard_22 (by decide) ?_
      refine lv_icmp_lt (tgt := 37) hx hb dX10_noteHeard_23 (by decide) (fun c_23 => ?_) (fun c_23 => ?_)
      · replace hf := it_t c_23 hf
        refine lv_aload_n hx hb dX10_noteHeard_37 rfl (lv_at hl 0 rfl) ?_
        refine lv_iconst (v := 2) hx hb dX10_noteHeard_38 (by decide) ?_
        obtain ⟨r_39, v_refusal_39, hc_39, hf⟩ := bd2 hf
        refine r_callVi (ws' := (wX10_noteHeard E h h_reader h_inn h_chosen h_night h_marks h_notes h_casts h_inn_house h_inn_thingIn h_inn_full h_inn_states h_inn_bed h_inn_dreamOf h_inn_listensIn h_notes_book h_notes_sort h_notes_one h_notes_other v_marked v_refusal_39 v_latestFault v_faultPlace v_inn_minutes v_inn_things v_inn_dreams v_inn_sleepers v_inn_listeners v_notes_count v_notes_book v_notes_sort v_notes_one v_notes_other)) (As := [.int 2]) (rest := []) C (ctX10_refuse l E h h_reader h_inn h_chosen h_night h_marks h_notes h_casts v_marked v_refusal v_latestFault v_faultPlace N 2 r_39 v_refusal_39 hc_39) ml_X10_68 ⟨Nat.le_of_ble_eq_true rfl, Nat.le_of_ble_eq_true rfl⟩ hP hD hS 0 rfl rfl rfl [0] rfl rfl rfl rfl rfl hl.1 rfl (Nat.le_of_ble_eq_true rfl) ⟨Nat.zero_le _, Nat.zero_le _⟩ dX10_noteHeard_39 ?_
        clear hP hD hS; intro H locs hP hD hS
        cases hf
        rw [hQ]
        exact r_iret C hr hP hD hS rfl dX10_noteHeard_42
      · replace hf := it_f c_23 hf
        refine lv_iload_n hx hb dX10_noteHeard_26 rfl (lv_at hl 3 rfl) ?_
        refine lv_aload_n hx hb dX10_noteHeard_27 rfl (lv_at hl 0 rfl) ?_
        refine r_get C hP 0 rfl fl_X10_19 rfl dX10_noteHeard_28 ?_
        refine r_get C hP 1 rfl fl_X10_172 rfl dX10_noteHeard_31 ?_
        refine lv_icmp_le (tgt := 43) hx hb dX10_noteHeard_34 (by decide) (fun c_34 => ?_) (fun c_34 => ?_)
        · replace hf := it_t c_34 hf
          refine lv_aload_n hx hb dX10_noteHeard_43 rfl (lv_at hl 0 rfl) ?_
          refine lv_iload_n hx hb dX10_noteHeard_44 rfl (lv_at hl 1 rfl) ?_
          refine lv_iload hx hb dX10_noteHeard_45 (lv_at hl 4 rfl) ?_
          refine lv_if_eq (tgt := 54) hx hb dX10_noteHeard_47 (by decide) (fun c_47 => ?_) (fun c_47 => ?_)
          · replace hf := it_t c_47 hf
            refine lv_iconst (v := 1) hx hb dX10_noteHeard_54 (by decide) ?_
            refine lv_iload_n hx hb dX10_noteHeard_55 rfl (lv_at hl 2 rfl) ?_
            refine lv_iload_n hx hb dX10_noteHeard_56 rfl (lv_at hl 3 rfl) ?_
            obtain ⟨r_57, v_refusal_57, v_notes_count_57, v_notes_book_57, v_notes_sort_57, v_notes_one_57, v_notes_other_57, hc_57, hf⟩ := bd7 hf
            refine r_callVi (ws' := (wX10_noteHeard E h h_reader h_inn h_chosen h_night h_marks h_notes h_casts h_inn_house h_inn_thingIn h_inn_full h_inn_states h_inn_bed h_inn_dreamOf h_inn_listensIn h_notes_book h_notes_sort h_notes_one h_notes_other v_marked v_refusal_57 v_latestFault v_faultPlace v_inn_minutes v_inn_things v_inn_dreams v_inn_sleepers v_inn_listeners v_notes_count_57 v_notes_book_57 v_notes_sort_57 v_notes_one_57 v_notes_other_57)) (As := [.int p0, .int 1, .int p1, .int p2]) (rest := []) C (ctX10_write l E h h_reader h_inn h_chosen h_night h_marks h_notes h_casts h_notes_book h_notes_sort h_notes_one h_notes_other v_marked v_refusal v_latestFault v_faultPlace v_notes_count v_notes_book v_notes_sort v_notes_one v_notes_other N p0 1 p1 p2 r_57 v_refusal_57 v_notes_count_57 v_notes_book_57 v_notes_sort_57 v_notes_one_57 v_notes_other_57 hc_57) ml_X10_252 ⟨Nat.le_of_ble_eq_true rfl, Nat.le_of_ble_eq_true rfl⟩ hP hD hS 0 rfl rfl rfl [0, 2, 3, 4, 5, 6] rfl rfl rfl rfl rfl hl.1 rfl (Nat.le_of_ble_eq_true rfl) ⟨Nat.zero_le _, Nat.zero_le _⟩ dX10_noteHeard_57 ?_
            clear hP hD hS; intro H locs hP hD hS
            cases hf
            rw [hQ]
            exact r_iret C hr hP hD hS rfl dX10_noteHeard_60
          · replace hf := it_f c_47 hf
            refine lv_iconst (v := 0) hx hb dX10_noteHeard_50 (by decide) ?_
            refine lv_goto (tgt := 55) hx hb dX10_noteHeard_51 (by decide) ?_
            refine lv_iload_n hx hb dX10_noteHeard_55 rfl (lv_at hl 2 rfl) ?_
            refine lv_iload_n hx hb dX10_noteHeard_56 rfl (lv_at hl 3 rfl) ?_
            obtain ⟨r_57, v_refusal_57, v_notes_count_57, v_notes_book_57, v_notes_sort_57, v_notes_one_57, v_notes_other_57, hc_57, hf⟩ := bd7 hf
            refine r_callVi (ws' := (wX10_noteHeard E h h_reader h_inn h_chosen h_night h_marks h_notes h_casts h_inn_house h_inn_thingIn h_inn_full h_inn_states h_inn_bed h_inn_dreamOf h_inn_listensIn h_notes_book h_notes_sort h_notes_one h_notes_other v_marked v_refusal_57 v_latestFault v_faultPlace v_inn_minutes v_inn_things v_inn_dreams v_inn_sleepers v_inn_listeners v_notes_count_57 v_notes_book_57 v_notes_sort_57 v_notes_one_57 v_notes_other_57)) (As := [.int p0, .int 0, .int p1, .int p2]) (rest := []) C (ctX10_write l E h h_reader h_inn h_chosen h_night h_marks h_notes h_casts h_notes_book h_notes_sort h_notes_one h_notes_other v_marked v_refusal v_latestFault v_faultPlace v_notes_count v_notes_book v_notes_sort v_notes_one v_notes_other N p0 0 p1 p2 r_57 v_refusal_57 v_notes_count_57 v_notes_book_57 v_notes_sort_57 v_notes_one_57 v_notes_other_57 hc_57) ml_X10_252 ⟨Nat.le_of_ble_eq_true rfl, Nat.le_of_ble_eq_true rfl⟩ hP hD hS 0 rfl rfl rfl [0, 2, 3, 4, 5, 6] rfl rfl rfl rfl rfl hl.1 rfl (Nat.le_of_ble_eq_true rfl) ⟨Nat.zero_le _, Nat.zero_le _⟩ dX10_noteHeard_57 ?_
            clear hP hD hS; intro H locs hP hD hS
            cases hf
            rw [hQ]
            exact r_iret C hr hP hD hS rfl dX10_noteHeard_60
        · replace hf := it_f c_34 hf
          refine lv_aload_n hx hb dX10_noteHeard_37 rfl (lv_at hl 0 rfl) ?_
          refine lv_iconst (v := 2) hx hb dX10_noteHeard_38 (by decide) ?_
          obtain ⟨r_39, v_refusal_39, hc_39, hf⟩ := bd2 hf
          refine r_callVi (ws' := (wX10_noteHeard E h h_reader h_inn h_chosen h_night h_marks h_notes h_casts h_inn_house h_inn_thingIn h_inn_full h_inn_states h_inn_bed h_inn_dreamOf h_inn_listensIn h_notes_book h_notes_sort h_notes_one h_notes_other v_marked v_refusal_39 v_latestFault v_faultPlace v_inn_minutes v_inn_things v_inn_dreams v_inn_sleepers v_inn_listeners v_notes_count v_notes_book v_notes_sort v_notes_one v_notes_other)) (As := [.int 2]) (rest := []) C (ctX10_refuse l E h h_reader h_inn h_chosen h_night h_marks h_notes h_casts v_marked v_refusal v_latestFault v_faultPlace N 2 r_39 v_refusal_39 hc_39) ml_X10_68 ⟨Nat.le_of_ble_eq_true rfl, Nat.le_of_ble_eq_true rfl⟩ hP hD hS 0 rfl rfl rfl [0] rfl rfl rfl rfl rfl hl.1 rfl (Nat.le_of_ble_eq_true rfl) ⟨Nat.zero_le _, Nat.zero_le _⟩ dX10_noteHeard_39 ?_
          clear hP hD hS; intro H locs hP hD hS
          cases hf
          rw [hQ]
          exact r_iret C hr hP hD hS rfl dX10_noteHeard_42
    · replace hf := it_t c_12 hf
      refine lv_aload_n hx hb dX10_noteHeard_15 rfl (lv_at hl 0 rfl) ?_
      refine lv_iconst (v := 1) hx hb dX10_noteHeard_16 (by decide) ?_
      obtain ⟨r_17, v_refusal_17, hc_17, hf⟩ := bd2 hf
      refine r_callVi (ws' := (wX10_noteHeard E h h_reader h_inn h_chosen h_night h_marks h_notes h_casts h_inn_house h_inn_thingIn h_inn_full h_inn_states h_inn_bed h_inn_dreamOf h_inn_listensIn h_notes_book h_notes_sort h_notes_one h_notes_other v_marked v_refusal_17 v_latestFault v_faultPlace v_inn_minutes v_inn_things v_inn_dreams v_inn_sleepers v_inn_listeners v_notes_count v_notes_book v_notes_sort v_notes_one v_notes_other)) (As := [.int 1]) (rest := []) C (ctX10_refuse l E h h_reader h_inn h_chosen h_night h_marks h_notes h_casts v_marked v_refusal v_latestFault v_faultPlace N 1 r_17 v_refusal_17 hc_17) ml_X10_68 ⟨Nat.le_of_ble_eq_true rfl, Nat.le_of_ble_eq_true rfl⟩ hP hD hS 0 rfl rfl rfl [0] rfl rfl rfl rfl rfl hl.1 rfl (Nat.le_of_ble_eq_true rfl) ⟨Nat.zero_le _, Nat.zero_le _⟩ dX10_noteHeard_17 ?_
      clear hP hD hS; intro H locs hP hD hS
      cases hf
      rw [hQ]
      exact r_iret C hr hP hD hS rfl dX10_noteHeard_20
def wX10_noteThing (E : EN) (h h_reader h_inn h_chosen h_night h_marks h_notes h_casts h_inn_house h_inn_thingIn h_inn_full h_inn_states h_inn_bed h_inn_dreamOf h_inn_listensIn h_inn_house_creak h_inn_house_cold h_inn_house_one h_inn_house_other h_inn_house_how h_inn_house_falls h_inn_house_ways h_notes_book h_notes_sort h_notes_one h_notes_other : Nat) (v_marked : Int32) (v_refusal : Int32) (v_latestFault : Int32) (v_faultPlace : Int32) (v_inn_minutes : Int32) (v_inn_things : Int32) (v_inn_dreams : Int32) (v_inn_sleepers : Int32) (v_inn_listeners : Int32) (v_inn_house_rooms : Int32) (v_inn_house_doors : Int32) (v_notes_count : Int32) (v_notes_book : Nat → Int32) (v_notes_sort : Nat → Int32) (v_notes_one : Nat → Int32) (v_notes_other : Nat → Int32) : va_W := [(h, .inr (9, [.ref h_reader, .ref h_inn, .ref h_chosen, .ref h_night, .ref h_marks, .int v_marked, .ref h_notes, .ref h_casts, .int v_refusal, .int v_latestFault, .int v_faultPlace])), (h_inn, .inr (2, [.ref h_inn_house, .int v_inn_minutes, .int v_inn_things, .ref h_inn_thingIn, .ref h_inn_full, .int v_inn_dreams, .ref h_inn_states, .int v_inn_sleepers, .ref h_inn_bed, .ref h_inn_dreamOf, .int v_inn_listeners, .ref h_inn_listensIn])), (h_inn_house, .inr (1, [.int v_inn_house_rooms, .ref h_inn_house_creak, .ref h_inn_house_cold, .int v_inn_house_doors, .ref h_inn_house_one, .ref h_inn_house_other, .ref h_inn_house_how, .ref h_inn_house_falls, .ref h_inn_house_ways])), (h_notes, .inr (5, [.ref h_notes_book, .ref h_notes_sort, .ref h_notes_one, .ref h_notes_other, .int v_notes_count])), (h_notes_book, aI E 20 v_notes_book), (h_notes_sort, aI E 20 v_notes_sort), (h_notes_one, aI E 20 v_notes_one), (h_notes_other, aI E 20 v_notes_other)]
def fX10_noteThing (N : Nat) (p0 : Int32) (p1 : Int32) (p2 : Int32) (v_inn_things : Int32) (v_inn_house_rooms : Int32) (v_notes_count : Int32) (v_notes_book : Nat → Int32) (v_notes_sort : Nat → Int32) (v_notes_one : Nat → Int32) (v_notes_other : Nat → Int32) : Option (Int32 × Int32 × Int32 × (Nat → Int32) × (Nat → Int32) × (Nat → Int32) × (Nat → Int32)) := (fX10_isBook N p0).bind (un1 fun (r_1 : Int32) => if r_1 = 0 then ((fX10_refuse N 1).bind (un2 fun (r_25 : Int32) (v_refusal_25 : Int32) => some (r_25, v_refusal_25, v_notes_count, v_notes_book, v_notes_sort, v_notes_one, v_notes_other))) else ((fX10_isThing N p1 v_inn_things).bind (un1 fun (r_9 : Int32) => if r_9 = 0 then ((fX10_refuse N 1).bind (un2 fun (r_25 : Int32) (v_refusal_25 : Int32) => some (r_25, v_refusal_25, v_notes_count, v_notes_book, v_notes_sort, v_notes_one, v_notes_other))) else ((fX10_isRoom N p2 v_inn_house_rooms).bind (un1 fun (r_17 : Int32) => if r_17 = 0 then ((fX10_refuse N 1).bind (un2 fun (r_25 : Int32) (v_refusal_25 : Int32) => some (r_25, v_refusal_25, v_notes_count, v_notes_book, v_notes_sort, v_notes_one, v_notes_other))) else ((fX10_write N p0 2 p1 p2 v_notes_count v_notes_book v_notes_sort v_notes_one v_notes_other).bind (un7 fun (r_34 : Int32) (v_refusal_34 : Int32) (v_notes_count_34 : Int32) (v_notes_book_34 : Nat → Int32) (v_notes_sort_34 : Nat → Int32) (v_notes_one_34 : Nat → Int32) (v_notes_other_34 : Nat → Int32) => some (r_34, v_refusal_34, v_notes_count_34, v_notes_book_34, v_notes_sort_34, v_notes_one_34, v_notes_other_34))))))))
set_option maxHeartbeats 4000000 in
set_option maxRecDepth 100000 in
theorem ctX10_noteThing (l : Launch) (E : EN) (h h_reader h_inn h_chosen h_night h_marks h_notes h_casts h_inn_house h_inn_thingIn h_inn_full h_inn_states h_inn_bed h_inn_dreamOf h_inn_listensIn h_inn_house_creak h_inn_house_cold h_inn_house_one h_inn_house_other h_inn_house_how h_inn_house_falls h_inn_house_ways h_notes_book h_notes_sort h_notes_one h_notes_other : Nat) (v_marked : Int32) (v_refusal : Int32) (v_latestFault : Int32) (v_faultPlace : Int32) (v_inn_minutes : Int32) (v_inn_things : Int32) (v_inn_dreams : Int32) (v_inn_sleepers : Int32) (v_inn_listeners : Int32) (v_inn_house_rooms : Int32) (v_inn_house_doors : Int32) (v_notes_count : Int32) (v_notes_book : Nat → Int32) (v_notes_sort : Nat → Int32) (v_notes_one : Nat → Int32) (v_notes_other : Nat → Int32) (N : Nat) (p0 : Int32) (p1 : Int32) (p2 : Int32) (z0 : Int32) (z1 : Int32) (z2 : Int32) (z3 : Nat → Int32) (z4 : Nat → Int32) (z5 : Nat → Int32) (z6 : Nat → Int32) (hf : fX10_noteThing N p0 p1 p2 v_inn_things v_inn_house_rooms v_notes_count v_notes_book v_notes_sort v_notes_one v_notes_other = some (z0, z1, z2, z3, z4, z5, z6)) : CTi l E yX10_noteThing cX10_noteThing 4 .int 2 48 [.ref h, .int p0, .int p1, .int p2] (wX10_noteThing E h h_reader h_inn h_chosen h_night h_marks h_notes h_casts h_inn_house h_inn_thingIn h_inn_full h_inn_states h_inn_bed h_inn_dreamOf h_inn_listensIn h_inn_house_creak h_inn_house_cold h_inn_house_one h_inn_house_other h_inn_house_how h_inn_house_falls h_inn_house_ways h_notes_book h_notes_sort h_notes_one h_notes_other v_marked v_refusal v_latestFault v_faultPlace v_inn_minutes v_inn_things v_inn_dreams v_inn_sleepers v_inn_listeners v_inn_house_rooms v_inn_house_doors v_notes_count v_notes_book v_notes_sort v_notes_one v_notes_other) z0 (wX10_noteThing E h h_reader h_inn h_chosen h_night h_marks h_notes h_casts h_inn_house h_inn_thingIn h_inn_full h_inn_states h_inn_bed h_inn_dreamOf h_inn_listensIn h_inn_house_creak h_inn_house_cold h_inn_house_one h_inn_house_other h_inn_house_how h_inn_house_falls h_inn_house_ways h_notes_book h_notes_sort h_notes_one h_notes_other v_marked z1 v_latestFault v_faultPlace v_inn_minutes v_inn_things v_inn_dreams v_inn_sleepers v_inn_listeners v_inn_house_rooms v_inn_house_doors z2 z3 z4 z5 z6) := by
  intro sz
  refine ct_body (by decide) (Nat.le_of_ble_eq_true rfl) ?_
  intro p e s m args below meth c A ls hAe C hr hin hP hD hS hl
  have C : CX p s m args meth c cX10_noteThing RX10 4 E A := C
  have hl : lv_has ls 4 [(0, .ref h), (1, .int p0), (2, .int p1), (3, .int p2)] := hl
  have hx := C.1
  have hb := C.2.1
  rw [hAe]
  clear hAe
  obtain ⟨Q, hQ⟩ : ∃ Q, Q = MQ below (Qi E A z0 (wX10_noteThing E h h_reader h_inn h_chosen h_night h_marks h_notes h_casts h_inn_house h_inn_thingIn h_inn_full h_inn_states h_inn_bed h_inn_dreamOf h_inn_listensIn h_inn_house_creak h_inn_house_cold h_inn_house_one h_inn_house_other h_inn_house_how h_inn_house_falls h_inn_house_ways h_notes_book h_notes_sort h_notes_one h_notes_other v_marked z1 v_latestFault v_faultPlace v_inn_minutes v_inn_things v_inn_dreams v_inn_sleepers v_inn_listeners v_inn_house_rooms v_inn_house_doors z2 z3 z4 z5 z6)) args s 0 0 A := ⟨_, rfl⟩
  rw [← hQ]
  unfold fX10_noteThing at hf
  refine lv_iload_n hx hb dX10_noteThing_0 rfl (lv_at hl 1 rfl) ?_
  obtain ⟨r_1, hc_1, hf⟩ := bd1 hf
  refine r_callSi (ws' := (wX10_noteThing E h h_reader h_inn h_chosen h_night h_marks h_notes h_casts h_inn_house h_inn_thingIn h_inn_full h_inn_states h_inn_bed h_inn_dreamOf h_inn_listensIn h_inn_house_creak h_inn_house_cold h_inn_house_one h_inn_house_other h_inn_house_how h_inn_house_falls h_inn_house_ways h_notes_book h_notes_sort h_notes_one h_notes_other v_marked v_refusal v_latestFault v_faultPlace v_inn_minutes v_inn_things v_inn_dreams v_inn_sleepers v_inn_listeners v_inn_house_rooms v_inn_house_doors v_notes_count v_notes_book v_notes_sort v_notes_one v_notes_other)) (As := [.int p0]) (rest := []) C (ctX10_isBook l E N p0 r_1 hc_1) ml_X10_249 ⟨Nat.le_of_ble_eq_true rfl, Nat.le_of_ble_eq_true rfl⟩ hP hD hS [] rfl rfl rfl rfl rfl hl.1 rfl (Nat.le_of_ble_eq_true rfl) ⟨Nat.zero_le _, Nat.zero_le _⟩ dX10_noteThing_1 ?_
  clear hP hD hS; intro H locs hP hD hS
  refine lv_if_eq (tgt := 23) hx hb dX10_noteThing_4 (by decide) (fun c_4 => ?_) (fun c_4 => ?_)
  · replace hf := it_t c_4 hf
    refine lv_aload_n hx hb dX10_noteThing_23 rfl (lv_at hl 0 rfl) ?_
    refine lv_iconst (v := 1) hx hb dX10_noteThing_24 (by decide) ?_
    obtain ⟨r_25, v_refusal_25, hc_25, hf⟩ := bd2 hf
    refine r_callVi (ws' := (wX10_noteThing E h h_reader h_inn h_chosen h_night h_marks h_notes h_casts h_inn_house h_inn_thingIn h_inn_full h_inn_states h_inn_bed h_inn_dreamOf h_inn_listensIn h_inn_house_creak h_inn_house_cold h_inn_house_one h_inn_house_other h_inn_house_how h_inn_house_falls h_inn_house_ways h_notes_book h_notes_sort h_notes_one h_notes_other v_marked v_refusal_25 v_latestFault v_faultPlace v_inn_minutes v_inn_things v_inn_dreams v_inn_sleepers v_inn_listeners v_inn_house_rooms v_inn_house_doors v_notes_count v_notes_book v_notes_sort v_notes_one v_notes_other)) (As := [.int 1]) (rest := []) C (ctX10_refuse l E h h_reader h_inn h_chosen h_night h_marks h_notes h_casts v_marked v_refusal v_latestFault v_faultPlace N 1 r_25 v_refusal_25 hc_25) ml_X10_68 ⟨Nat.le_of_ble_eq_true rfl, Nat.le_of_ble_eq_true rfl⟩ hP hD hS 0 rfl rfl rfl [0] rfl rfl rfl rfl rfl hl.1 rfl (Nat.le_of_ble_eq_true rfl) ⟨Nat.zero_le _, Nat.zero_le _⟩ dX10_noteThing_25 ?_
    clear hP hD hS; intro H locs hP hD hS
    cases hf
    rw [hQ]
    exact r_iret C hr hP hD hS rfl dX10_noteThing_28
  · replace hf := it_f c_4 hf
    refine lv_aload_n hx hb dX10_noteThing_7 rfl (lv_at hl 0 rfl) ?_
    refine lv_iload_n hx hb dX10_noteThing_8 rfl (lv_at hl 2 rfl) ?_
    obtain ⟨r_9, hc_9, hf⟩ := bd1 hf
    refine r_callVi (ws' := (wX10_noteThing E h h_reader h_inn h_chosen h_night h_marks h_notes h_casts h_inn_house h_inn_thingIn h_inn_full h_inn_states h_inn_bed h_inn_dreamOf h_inn_listensIn h_inn_house_creak h_inn_house_cold h_inn_house_one h_inn_house_other h_inn_house_how h_inn_house_falls h_inn_house_ways h_notes_book h_notes_sort h_notes_one h_notes_other v_marked v_refusal v_latestFault v_faultPlace v_inn_minutes v_inn_things v_inn_dreams v_inn_sleepers v_inn_listeners v_inn_house_rooms v_inn_house_doors v_notes_count v_notes_book v_notes_sort v_notes_one v_notes_other)) (As := [.int p1]) (rest := []) C (ctX10_isThing l E h h_reader h_inn h_chosen h_night h_marks h_notes h_casts h_inn_house h_inn_thingIn h_inn_full h_inn_states h_inn_bed h_inn_dreamOf h_inn_listensIn v_marked v_refusal v_latestFault v_faultPlace v_inn_minutes v_inn_things v_inn_dreams v_inn_sleepers v_inn_listeners N p1 r_9 hc_9) ml_X10_201 ⟨Nat.le_of_ble_eq_true rfl, Nat.le_of_ble_eq_true rfl⟩ hP hD hS 0 rfl rfl rfl [0, 1] rfl rfl rfl rfl rfl hl.1 rfl (Nat.le_of_ble_eq_true rfl) ⟨Nat.zero_le _, Nat.zero_le _⟩ dX10_noteThing_9 ?_
    clear hP hD hS; intro H locs hP hD hS
    refine lv_if_eq (tgt := 23) hx hb dX10_noteThing_12 (by decide) (fun c_12 => ?_) (fun c_12 => ?_)
    · replace hf := it_t c_12 hf
      refine lv_aload_n hx hb dX10_noteThing_23 rfl (lv_at hl 0 rfl) ?_
      refine lv_iconst (v := 1) hx hb dX10_noteThing_24 (by decide) ?_
      obtain ⟨r_25, v_refusal_25, hc_25, hf⟩ := bd2 hf
      refine r_callVi (ws' := (wX10_noteThing E h h_reader h_inn h_chosen h_night h_marks h_notes h_casts h_inn_house h_inn_thingIn h_inn_full h_inn_states h_inn_bed h_inn_dreamOf h_inn_listensIn h_inn_house_creak h_inn_house_cold h_inn_house_one h_inn_house_other h_inn_house_how h_inn_house_falls h_inn_house_ways h_notes_book h_notes_sort h_notes_one h_notes_other v_marked v_refusal_25 v_latestFault v_faultPlace v_inn_minutes v_inn_things v_inn_dreams v_inn_sleepers v_inn_listeners v_inn_house_rooms v_inn_house_doors v_notes_count v_notes_book v_notes_sort v_notes_one v_notes_other)) (As := [.int 1]) (rest := []) C (ctX10_refuse l E h h_reader h_inn h_chosen h_night h_marks h_notes h_casts v_marked v_refusal v_latestFault v_faultPlace N 1 r_25 v_refusal_25 hc_25) ml_X10_68 ⟨Nat.le_of_ble_eq_true rfl, Nat.le_of_ble_eq_true rfl⟩ hP hD hS 0 rfl rfl rfl [0] rfl rfl rfl rfl rfl hl.1 rfl (Nat.le_of_ble_eq_true rfl) ⟨Nat.zero_le _, Nat.zero_le _⟩ dX10_noteThing_25 ?_
      clear hP hD hS; intro H locs hP hD hS
      cases hf
      rw [hQ]
      exact r_iret C hr hP hD hS rfl dX10_noteThing_28
    · replace hf := it_f c_12 hf
      refine lv_aload_n hx hb dX10_noteThing_15 rfl (lv_at hl 0 rfl) ?_
      refine lv_iload_n hx hb dX10_noteThing_16 rfl (lv_at hl 3 rfl) ?_
      obtain ⟨r_17, hc_17, hf⟩ := bd1 hf
      refine r_callVi (ws' := (wX10_noteThing E h h_reader h_inn h_chosen h_night h_marks h_notes h_casts h_inn_house h_inn_thingIn h_inn_full h_inn_states h_inn_bed h_inn_dreamOf h_inn_listensIn h_inn_house_creak h_inn_house_cold h_inn_house_one h_inn_house_other h_inn_house_how h_inn_house_falls h_inn_house_ways h_notes_book h_notes_sort h_notes_one h_notes_other v_marked v_refusal v_latestFault v_faultPlace v_inn_minutes v_inn_things v_inn_dreams v_inn_sleepers v_inn_listeners v_inn_house_rooms v_inn_house_doors v_notes_count v_notes_book v_notes_sort v_notes_one v_notes_other)) (As := [.int p2]) (rest := []) C (ctX10_isRoom l E h h_reader h_inn h_chosen h_night h_marks h_notes h_casts h_inn_house h_inn_thingIn h_inn_full h_inn_states h_inn_bed h_inn_dreamOf h_inn_listensIn h_inn_house_creak h_inn_house_cold h_inn_house_one h_inn_house_other h_inn_house_how h_inn_house_falls h_inn_house_ways v_marked v_refusal v_latestFault v_faultPlace v_inn_minutes v_inn_things v_inn_dreams v_inn_sleepers v_inn_listeners v_inn_house_rooms v_inn_house_doors N p2 r_17 hc_17) ml_X10_101 ⟨Nat.le_of_ble_eq_true rfl, Nat.le_of_ble_eq_true rfl⟩ hP hD hS 0 rfl rfl rfl [0, 1, 2] rfl rfl rfl rfl rfl hl.1 rfl (Nat.le_of_ble_eq_true rfl) ⟨Nat.zero_le _, Nat.zero_le _⟩ dX10_noteThing_17 ?_
      clear hP hD hS; intro H locs hP hD hS
      refine lv_if_ne (tgt := 29) hx hb dX10_noteThing_20 (by decide) (fun c_20 => ?_) (fun c_20 => ?_)
      · replace hf := it_f c_20 hf
        refine lv_aload_n hx hb dX10_noteThing_29 rfl (lv_at hl 0 rfl) ?_
        refine lv_iload_n hx hb dX10_noteThing_30 rfl (lv_at hl 1 rfl) ?_
        refine lv_iconst (v := 2) hx hb dX10_noteThing_31 (by decide) ?_
        refine lv_iload_n hx hb dX10_noteThing_32 rfl (lv_at hl 2 rfl) ?_
        refine lv_iload_n hx hb dX10_noteThing_33 rfl (lv_at hl 3 rfl) ?_
        obtain ⟨r_34, v_refusal_34, v_notes_count_34, v_notes_book_34, v_notes_sort_34, v_notes_one_34, v_notes_other_34, hc_34, hf⟩ := bd7 hf
        refine r_callVi (ws' := (wX10_noteThing E h h_reader h_inn h_chosen h_night h_marks h_notes h_casts h_inn_house h_inn_thingIn h_inn_full h_inn_states h_inn_bed h_inn_dreamOf h_inn_listensIn h_inn_house_creak h_inn_house_cold h_inn_house_one h_inn_house_other h_inn_house_how h_inn_house_falls h_inn_house_ways h_notes_book h_notes_sort h_notes_one h_notes_other v_marked v_refusal_34 v_latestFault v_faultPlace v_inn_minutes v_inn_things v_inn_dreams v_inn_sleepers v_inn_listeners v_inn_house_rooms v_inn_house_doors v_notes_count_34 v_notes_book_34 v_notes_sort_34 v_notes_one_34 v_notes_other_34)) (As := [.int p0, .int 2, .int p1, .int p2]) (rest := []) C (ctX10_write l E h h_reader h_inn h_chosen h_night h_marks h_notes h_casts h_notes_book h_notes_sort h_notes_one h_notes_other v_marked v_refusal v_latestFault v_faultPlace v_notes_count v_notes_book v_notes_sort v_notes_one v_notes_other N p0 2 p1 p2 r_34 v_refusal_34 v_notes_count_34 v_notes_book_34 v_notes_sort_34 v_notes_one_34 v_notes_other_34 hc_34) ml_X10_252 ⟨Nat.le_of_ble_eq_true rfl, Nat.le_of_ble_eq_true rfl⟩ hP hD hS 0 rfl rfl rfl [0, 3, 4, 5, 6, 7] rfl rfl rfl rfl rfl hl.1 rfl (Nat.le_of_ble_eq_true rfl) ⟨Nat.zero_le _, Nat.zero_le _⟩ dX10_noteThing_34 ?_
        clear hP hD hS; intro H locs hP hD hS
        cases hf
        rw [hQ]
        exact r_iret C hr hP hD hS rfl dX10_noteThing_37
      · replace hf := it_t c_20 hf
        refine lv_aload_n hx hb dX10_noteThing_23 rfl (lv_at hl 0 rfl) ?_
        refine lv_iconst (v := 1) hx hb dX10_noteThing_24 (by decide) ?_
        obtain ⟨r_25, v_refusal_25, hc_25, hf⟩ := bd2 hf
        refine r_callVi (ws' := (wX10_noteThing E h h_reader h_inn h_chosen h_night h_marks h_notes h_casts h_inn_house h_inn_thingIn h_inn_full h_inn_states h_inn_bed h_inn_dreamOf h_inn_listensIn h_inn_house_creak h_inn_house_cold h_inn_house_one h_inn_house_other h_inn_house_how h_inn_house_falls h_inn_house_ways h_notes_book h_notes_sort h_notes_one h_notes_other v_marked v_refusal_25 v_latestFault v_faultPlace v_inn_minutes v_inn_things v_inn_dreams v_inn_sleepers v_inn_listeners v_inn_house_rooms v_inn_house_doors v_notes_count v_notes_book v_notes_sort v_notes_one v_notes_other)) (As := [.int 1]) (rest := []) C (ctX10_refuse l E h h_reader h_inn h_chosen h_night h_marks h_notes h_casts v_marked v_refusal v_latestFault v_faultPlace N 1 r_25 v_refusal_25 hc_25) ml_X10_68 ⟨Nat.le_of_ble_eq_true rfl, Nat.le_of_ble_eq_true rfl⟩ hP hD hS 0 rfl rfl rfl [0] rfl rfl rfl rfl rfl hl.1 rfl (Nat.le_of_ble_eq_true rfl) ⟨Nat.zero_le _, Nat.zero_le _⟩ dX10_noteThing_25 ?_
        clear hP hD hS; intro H locs hP hD hS
        cases hf
        rw [hQ]
        exact r_iret C hr hP hD hS rfl dX10_noteThing_28
def wX10_noteDoor (E : EN) (h h_reader h_inn h_chosen h_night h_marks h_notes h_casts h_inn_house h_inn_thingIn h_inn_full h_inn_states h_inn_bed h_inn_dreamOf h_inn_listensIn h_inn_house_creak h_inn_house_cold h_inn_house_one h_inn_house_other h_inn_house_how h_inn_house_falls h_inn_house_ways h_notes_book h_notes_sort h_notes_one h_notes_other : Nat) (v_marked : Int32) (v_refusal : Int32) (v_latestFault : Int32) (v_faultPlace : Int32) (v_inn_minutes : Int32) (v_inn_things : Int32) (v_inn_dreams : Int32) (v_inn_sleepers : Int32) (v_inn_listeners : Int32) (v_inn_house_rooms : Int32) (v_inn_house_doors : Int32) (v_notes_count : Int32) (v_notes_book : Nat → Int32) (v_notes_sort : Nat → Int32) (v_notes_one : Nat → Int32) (v_notes_other : Nat → Int32) : va_W := [(h, .inr (9, [.ref h_reader, .ref h_inn, .ref h_chosen, .ref h_night, .ref h_marks, .int v_marked, .ref h_notes, .ref h_casts, .int v_refusal, .int v_latestFault, .int v_faultPlace])), (h_inn, .inr (2, [.ref h_inn_house, .int v_inn_minutes, .int v_inn_things, .ref h_inn_thingIn, .ref h_inn_full, .int v_inn_dreams, .ref h_inn_states, .int v_inn_sleepers, .ref h_inn_bed, .ref h_inn_dreamOf, .int v_inn_listeners, .ref h_inn_listensIn])), (h_inn_house, .inr (1, [.int v_inn_house_rooms, .ref h_inn_house_creak, .ref h_inn_house_cold, .int v_inn_house_doors, .ref h_inn_house_one, .ref h_inn_house_other, .ref h_inn_house_how, .ref h_inn_house_falls, .ref h_inn_house_ways])), (h_notes, .inr (5, [.ref h_notes_book, .ref h_notes_sort, .ref h_notes_one, .ref h_notes_other, .int v_notes_count])), (h_notes_book, aI E 20 v_notes_book), (h_notes_sort, aI E 20 v_notes_sort), (h_notes_one, aI E 20 v_notes_one), (h_notes_other, aI E 20 v_notes_other)]
def fX10_noteDoor (N : Nat) (p0 : Int32) (p1 : Int32) (p2 : Int32) (v_inn_house_doors : Int32) (v_notes_count : Int32) (v_notes_book : Nat → Int32) (v_notes_sort : Nat → Int32) (v_notes_one : Nat → Int32) (v_notes_other : Nat → Int32) : Option (Int32 × Int32 × Int32 × (Nat → Int32) × (Nat → Int32) × (Nat → Int32) × (Nat → Int32)) := (fX10_isBook N p0).bind (un1 fun (r_1 : Int32) => if r_1 = 0 then ((fX10_refuse N 1).bind (un2 fun (r_17 : Int32) (v_refusal_17 : Int32) => some (r_17, v_refusal_17, v_notes_count, v_notes_book, v_notes_sort, v_notes_one, v_notes_other))) else ((fX10_isDoor N p1 v_inn_house_doors).bind (un1 fun (r_9 : Int32) => if r_9 = 0 then ((fX10_refuse N 1).bind (un2 fun (r_17 : Int32) (v_refusal_17 : Int32) => some (r_17, v_refusal_17, v_notes_count, v_notes_book, v_notes_sort, v_notes_one, v_notes_other))) else (if p2 < 0 then ((fX10_refuse N 2).bind (un2 fun (r_32 : Int32) (v_refusal_32 : Int32) => some (r_32, v_refusal_32, v_notes_count, v_notes_book, v_notes_sort, v_notes_one, v_notes_other))) else (if p2 ≤ 2 then ((fX10_write N p0 3 p1 p2 v_notes_count v_notes_book v_notes_sort v_notes_one v_notes_other).bind (un7 fun (r_41 : Int32) (v_refusal_41 : Int32) (v_notes_count_41 : Int32) (v_notes_book_41 : Nat → Int32) (v_notes_sort_41 : Nat → Int32) (v_notes_one_41 : Nat → Int32) (v_notes_other_41 : Nat → Int32) => some (r_41, v_refusal_41, v_notes_count_41, v_notes_book_41, v_notes_sort_41, v_notes_one_41, v_notes_other_41))) else ((fX10_refuse N 2).bind (un2 fun (r_32 : Int32) (v_refusal_32 : Int32) => some (r_32, v_refusal_32, v_notes_count, v_notes_book, v_notes_sort, v_notes_one, v_notes_other))))))))
set_option maxHeartbeats 4000000 in
set_option maxRecDepth 100000 in
theorem ctX10_noteDoor (l : Launch) (E : EN) (h h_reader h_inn h_chosen h_night h_marks h_notes h_casts h_inn_house h_inn_thingIn h_inn_full h_inn_states h_inn_bed h_inn_dreamOf h_inn_listensIn h_inn_house_creak h_inn_house_cold h_inn_house_one h_inn_house_other h_inn_house_how h_inn_house_falls h_inn_house_ways h_notes_book h_notes_sort h_notes_one h_notes_other : Nat) (v_marked : Int32) (v_refusal : Int32) (v_latestFault : Int32) (v_faultPlace : Int32) (v_inn_minutes : Int32) (v_inn_things : Int32) (v_inn_dreams : Int32) (v_inn_sleepers : Int32) (v_inn_listeners : Int32) (v_inn_house_rooms : Int32) (v_inn_house_doors : Int32) (v_notes_count : Int32) (v_notes_book : Nat → Int32) (v_notes_sort : Nat → Int32) (v_notes_one : Nat → Int32) (v_notes_other : Nat → Int32) (N : Nat) (p0 : Int32) (p1 : Int32) (p2 : Int32) (z0 : Int32) (z1 : Int32) (z2 : Int32) (z3 : Nat → Int32) (z4 : Nat → Int32) (z5 : Nat → Int32) (z6 : Nat → Int32) (hf : fX10_noteDoor N p0 p1 p2 v_inn_house_doors v_notes_count v_notes_book v_notes_sort v_notes_one v_notes_other = some (z0, z1, z2, z3, z4, z5, z6)) : CTi l E yX10_noteDoor cX10_noteDoor 4 .int 2 48 [.ref h, .int p0, .int p1, .int p2] (wX10_noteDoor E h h_reader h_inn h_chosen h_night h_marks h_notes h_casts h_inn_house h_inn_thingIn h_inn_full h_inn_states h_inn_bed h_inn_dreamOf h_inn_listensIn h_inn_house_creak h_inn_house_cold h_inn_house_one h_inn_house_other h_inn_house_how h_inn_house_falls h_inn_house_ways h_notes_book h_notes_sort h_notes_one h_notes_other v_marked v_refusal v_latestFault v_faultPlace v_inn_minutes v_inn_things v_inn_dreams v_inn_sleepers v_inn_listeners v_inn_house_rooms v_inn_house_doors v_notes_count v_notes_book v_notes_sort v_notes_one v_notes_other) z0 (wX10_noteDoor E h h_reader h_inn h_chosen h_night h_marks h_notes h_casts h_inn_house h_inn_thingIn h_inn_full h_inn_states h_inn_bed h_inn_dreamOf h_inn_listensIn h_inn_house_creak h_inn_house_cold h_inn_house_one h_inn_house_other h_inn_house_how h_inn_house_falls h_inn_house_ways h_notes_book h_notes_sort h_notes_one h_notes_other v_marked z1 v_latestFault v_faultPlace v_inn_minutes v_inn_things v_inn_dreams v_inn_sleepers v_inn_listeners v_inn_house_rooms v_inn_house_doors z2 z3 z4 z5 z6) := by
  intro sz
  refine ct_body (by decide) (Nat.le_of_ble_eq_true rfl) ?_
  intro p e s m args below meth c A ls hAe C hr hin hP hD hS hl
  have C : CX p s m args meth c cX10_noteDoor RX10 4 E A := C
  have hl : lv_has ls 4 [(0, .ref h), (1, .int p0), (2, .int p1), (3, .int p2)] := hl
  have hx := C.1
  have hb := C.2.1
  rw [hAe]
  clear hAe
  obtain ⟨Q, hQ⟩ : ∃ Q, Q = MQ below (Qi E A z0 (wX10_noteDoor E h h_reader h_inn h_chosen h_night h_marks h_notes h_casts h_inn_house h_inn_thingIn h_inn_full h_inn_states h_inn_bed h_inn_dreamOf h_inn_listensIn h_inn_house_creak h_inn_house_cold h_inn_house_one h_inn_house_other h_inn_house_how h_inn_house_falls h_inn_house_ways h_notes_book h_notes_sort h_notes_one h_notes_other v_marked z1 v_latestFault v_faultPlace v_inn_minutes v_inn_things v_inn_dreams v_inn_sleepers v_inn_listeners v_inn_house_rooms v_inn_house_doors z2 z3 z4 z5 z6)) args s 0 0 A := ⟨_, rfl⟩
  rw [← hQ]
  unfold fX10_noteDoor at hf
  refine lv_iload_n hx hb dX10_noteDoor_0 rfl (lv_at hl 1 rfl) ?_
  obtain ⟨r_1, hc_1, hf⟩ := bd1 hf
  refine r_callSi (ws' := (wX10_noteDoor E h h_reader h_inn h_chosen h_night h_marks h_notes h_casts h_inn_house h_inn_thingIn h_inn_full h_inn_states h_inn_bed h_inn_dreamOf h_inn_listensIn h_inn_house_creak h_inn_house_cold h_inn_house_one h_inn_house_other h_inn_house_how h_inn_house_falls h_inn_house_ways h_notes_book h_notes_sort h_notes_one h_notes_other v_marked v_refusal v_latestFault v_faultPlace v_inn_minutes v_inn_things v_inn_dreams v_inn_sleepers v_inn_listeners v_inn_house_rooms v_inn_house_doors v_notes_count v_notes_book v_notes_sort v_notes_one v_notes_other)) (As := [.int p0]) (rest := []) C (ctX10_isBook l E N p0 r_1 hc_1) ml_X10_249 ⟨Nat.le_of_ble_eq_true rfl, Nat.le_of_ble_eq_true rfl⟩ hP hD hS [] rfl rfl rfl rfl rfl hl.1 rfl (Nat.le_of_ble_eq_true rfl) ⟨Nat.zero_le _, Nat.zero_le _⟩ dX10_noteDoor_1 ?_
  clear hP hD hS; intro H locs hP hD hS
  refine lv_if_eq (tgt := 15) hx hb dX10_noteDoor_4 (by decide) (fun c_4 => ?_) (fun c_4 => ?_)
  · replace hf := it_t c_4 hf
    refine lv_aload_n hx hb dX10_noteDoor_15 rfl (lv_at hl 0 rfl) ?_
    refine lv_iconst (v := 1) hx hb dX10_noteDoor_16 (by decide) ?_
    obtain ⟨r_17, v_refusal_17, hc_17, hf⟩ := bd2 hf
    refine r_callVi (ws' := (wX10_noteDoor E h h_reader h_inn h_chosen h_night h_marks h_notes h_casts h_inn_house h_inn_thingIn h_inn_full h_inn_states h_inn_bed h_inn_dreamOf h_inn_listensIn h_inn_house_creak h_inn_house_cold h_inn_house_one h_inn_house_other h_inn_house_how h_inn_house_falls h_inn_house_ways h_notes_book h_notes_sort h_notes_one h_notes_other v_marked v_refusal_17 v_latestFault v_faultPlace v_inn_minutes v_inn_things v_inn_dreams v_inn_sleepers v_inn_listeners v_inn_house_rooms v_inn_house_doors v_notes_count v_notes_book v_notes_sort v_notes_one v_notes_other)) (As := [.int 1]) (rest := []) C (ctX10_refuse l E h h_reader h_inn h_chosen h_night h_marks h_notes h_casts v_marked v_refusal v_latestFault v_faultPlace N 1 r_17 v_refusal_17 hc_17) ml_X10_68 ⟨Nat.le_of_ble_eq_true rfl, Nat.le_of_ble_eq_true rfl⟩ hP hD hS 0 rfl rfl rfl [0] rfl rfl rfl rfl rfl hl.1 rfl (Nat.le_of_ble_eq_true rfl) ⟨Nat.zero_le _, Nat.zero_le _⟩ dX10_noteDoor_17 ?_
    clear hP hD hS; intro H locs hP hD hS
    cases hf
    rw [hQ]
    exact r_iret C hr hP hD hS rfl dX10_noteDoor_20
  · replace hf := it_f c_4 hf
    refine lv_aload_n hx hb dX10_noteDoor_7 rfl (lv_at hl 0 rfl) ?_
    refine lv_iload_n hx hb dX10_noteDoor_8 rfl (lv_at hl 2 rfl) ?_
    obtain ⟨r_9, hc_9, hf⟩ := bd1 hf
    refine r_callVi (ws' := (wX10_noteDoor E h h_reader h_inn h_chosen h_night h_marks h_notes h_casts h_inn_house h_inn_thingIn h_inn_full h_inn_states h_inn_bed h_inn_dreamOf h_inn_listensIn h_inn_house_creak h_inn_house_cold h_inn_house_one h_inn_house_other h_inn_house_how h_inn_house_falls h_inn_house_ways h_notes_book h_notes_sort h_notes_one h_notes_other v_marked v_refusal v_latestFault v_faultPlace v_inn_minutes v_inn_things v_inn_dreams v_inn_sleepers v_inn_listeners v_inn_house_rooms v_inn_house_doors v_notes_count v_notes_book v_notes_sort v_notes_one v_notes_other)) (As := [.int p1]) (rest := []) C (ctX10_isDoor l E h h_reader h_inn h_chosen h_night h_marks h_notes h_casts h_inn_house h_inn_thingIn h_inn_full h_inn_states h_inn_bed h_inn_dreamOf h_inn_listensIn h_inn_house_creak h_inn_house_cold h_inn_house_one h_inn_house_other h_inn_house_how h_inn_house_falls h_inn_house_ways v_marked v_refusal v_latestFault v_faultPlace v_inn_minutes v_inn_things v_inn_dreams v_inn_sleepers v_inn_listeners v_inn_house_rooms v_inn_house_doors N p1 r_9 hc_9) ml_X10_213 ⟨Nat.le_of_ble_eq_true rfl, Nat.le_of_ble_eq_true rfl⟩ hP hD hS 0 rfl rfl rfl [0, 1, 2] rfl rfl rfl rfl rfl hl.1 rfl (Nat.le_of_ble_eq_true rfl) ⟨Nat.zero_le _, Nat.zero_le _⟩ dX10_noteDoor_9 ?_
    clear hP hD hS; intro H locs hP hD hS
    refine lv_if_ne (tgt := 21) hx hb dX10_noteDoor_12 (by decide) (fun c_12 => ?_) (fun c_12 => ?_)
    · replace hf := it_f c_12 hf
      refine lv_iload_n hx hb dX10_noteDoor_21 rfl (lv_at hl 3 rfl) ?_
      refine lv_if_lt (tgt := 30) hx hb dX10_noteDoor_22 (by decide) (fun c_22 => ?_) (fun c_22 => ?_)
      · replace hf := it_t c_22 hf
        refine lv_aload_n hx hb dX10_noteDoor_30 rfl (lv_at hl 0 rfl) ?_
        refine lv_iconst (v := 2) hx hb dX10_noteDoor_31 (by decide) ?_
        obtain ⟨r_32, v_refusal_32, hc_32, hf⟩ := bd2 hf
        refine r_callVi (ws' := (wX10_noteDoor E h h_reader h_inn h_chosen h_night h_marks h_notes h_casts h_inn_house h_inn_thingIn h_inn_full h_inn_states h_inn_bed h_inn_dreamOf h_inn_listensIn h_inn_house_creak h_inn_house_cold h_inn_house_one h_inn_house_other h_inn_house_how h_inn_house_falls h_inn_house_ways h_notes_book h_notes_sort h_notes_one h_notes_other v_marked v_refusal_32 v_latestFault v_faultPlace v_inn_minutes v_inn_things v_inn_dreams v_inn_sleepers v_inn_listeners v_inn_house_rooms v_inn_house_doors v_notes_count v_notes_book v_notes_sort v_notes_one v_notes_other)) (As := [.int 2]) (rest := []) C (ctX10_refuse l E h h_reader h_inn h_chosen h_night h_marks h_notes h_casts v_marked v_refusal v_latestFault v_faultPlace N 2 r_32 v_refusal_32 hc_32) ml_X10_68 ⟨Nat.le_of_ble_eq_true rfl, Nat.le_of_ble_eq_true rfl⟩ hP hD hS 0 rfl rfl rfl [0] rfl rfl rfl rfl rfl hl.1 rfl (Nat.le_of_ble_eq_true rfl) ⟨Nat.zero_le _, Nat.zero_le _⟩ dX10_noteDoor_32 ?_
        clear hP hD hS; intro H locs hP hD hS
        cases hf
        rw [hQ]
        exact r_iret C hr hP hD hS rfl dX10_noteDoor_35
      · replace hf := it_f c_22 hf
        refine lv_iload_n hx hb dX10_noteDoor_25 rfl (lv_at hl 3 rfl) ?_
        refine lv_iconst (v := 2) hx hb dX10_noteDoor_26 (by decide) ?_
        refine lv_icmp_le (tgt := 36) hx hb dX10_noteDoor_27 (by decide) (fun c_27 => ?_) (fun c_27 => ?_)
        · replace hf := it_t c_27 hf
          refine lv_aload_n hx hb dX10_noteDoor_36 rfl (lv_at hl 0 rfl) ?_
          refine lv_iload_n hx hb dX10_noteDoor_37 rfl (lv_at hl 1 rfl) ?_
          refine lv_iconst (v := 3) hx hb dX10_noteDoor_38 (by decide) ?_
          refine lv_iload_n hx hb dX10_noteDoor_39 rfl (lv_at hl 2 rfl) ?_
          refine lv_iload_n hx hb dX10_noteDoor_40 rfl (lv_at hl 3 rfl) ?_
          obtain ⟨r_41, v_refusal_41, v_notes_count_41, v_notes_book_41, v_notes_sort_41, v_notes_one_41, v_notes_other_41, hc_41, hf⟩ := bd7 hf
          refine r_callVi (ws' := (wX10_noteDoor E h h_reader h_inn h_chosen h_night h_marks h_notes h_casts h_inn_house h_inn_thingIn h_inn_full h_inn_states h_inn_bed h_inn_dreamOf h_inn_listensIn h_inn_house_creak h_inn_house_cold h_inn_house_one h_inn_house_other h_inn_house_how h_inn_house_falls h_inn_house_ways h_notes_book h_notes_sort h_notes_one h_notes_other v_marked v_refusal_41 v_latestFault v_faultPlace v_inn_minutes v_inn_things v_inn_dreams v_inn_sleepers v_inn_listeners v_inn_house_rooms v_inn_house_doors v_notes_count_41 v_notes_book_41 v_notes_sort_41 v_notes_one_41 v_notes_other_41)) (As := [.int p0, .int 3, .int p1, .int p2]) (rest := []) C (ctX10_write l E h h_reader h_inn h_chosen h_night h_marks h_notes h_casts h_notes_book h_notes_sort h_notes_one h_notes_other v_marked v_refusal v_latestFault v_faultPlace v_notes_count v_notes_book v_notes_sort v_notes_one v_notes_other N p0 3 p1 p2 r_41 v_refusal_41 v_notes_count_41 v_notes_book_41 v_notes_sort_41 v_notes_one_41 v_notes_other_41 hc_41) ml_X10_252 ⟨Nat.le_of_ble_eq_true rfl, Nat.le_of_ble_eq_true rfl⟩ hP hD hS 0 rfl rfl rfl [0, 3, 4, 5, 6, 7] rfl rfl rfl rfl rfl hl.1 rfl (Nat.le_of_ble_eq_true rfl) ⟨Nat.zero_le _, Nat.zero_le _⟩ dX10_noteDoor_41 ?_
          clear hP hD hS; intro H locs hP hD hS
          cases hf
          rw [hQ]
          exact r_iret C hr hP hD hS rfl dX10_noteDoor_44
        · replace hf := it_f c_27 hf
          refine lv_aload_n hx hb dX10_noteDoor_30 rfl (lv_at hl 0 rfl) ?_
          refine lv_iconst (v := 2) hx hb dX10_noteDoor_31 (by decide) ?_
          obtain ⟨r_32, v_refusal_32, hc_32, hf⟩ := bd2 hf
          refine r_callVi (ws' := (wX10_noteDoor E h h_reader h_inn h_chosen h_night h_marks h_notes h_casts h_inn_house h_inn_thingIn h_inn_full h_inn_states h_inn_bed h_inn_dreamOf h_inn_listensIn h_inn_house_creak h_inn_house_cold h_inn_house_one h_inn_house_other h_inn_house_how h_inn_house_falls h_inn_house_ways h_notes_book h_notes_sort h_notes_one h_notes_other v_marked v_refusal_32 v_latestFault v_faultPlace v_inn_minutes v_inn_things v_inn_dreams v_inn_sleepers v_inn_listeners v_inn_house_rooms v_inn_house_doors v_notes_count v_notes_book v_notes_sort v_notes_one v_notes_other)) (As := [.int 2]) (rest := []) C (ctX10_refuse l E h h_reader h_inn h_chosen h_night h_marks h_notes h_casts v_marked v_refusal v_latestFault v_faultPlace N 2 r_32 v_refusal_32 hc_32) ml_X10_68 ⟨Nat.le_of_ble_eq_true rfl, Nat.le_of_ble_eq_true rfl⟩ hP hD hS 0 rfl rfl rfl [0] rfl rfl rfl rfl rfl hl.1 rfl (Nat.le_of_ble_eq_true rfl) ⟨Nat.zero_le _, Nat.zero_le _⟩ dX10_noteDoor_32 ?_
          clear hP hD hS; intro H locs hP hD hS
          cases hf
          rw [hQ]
          exact r_iret C hr hP hD hS rfl dX10_noteDoor_35
    · replace hf := it_t c_12 hf
      refine lv_aload_n hx hb dX10_noteDoor_15 rfl (lv_at hl 0 rfl) ?_
      refine lv_iconst (v := 1) hx hb dX10_noteDoor_16 (by decide) ?_
      obtain ⟨r_17, v_refusal_17, hc_17, hf⟩ := bd2 hf
      refine r_callVi (ws' := (wX10_noteDoor E h h_reader h_inn h_chosen h_night h_marks h_notes h_casts h_inn_house h_inn_thingIn h_inn_full h_inn_states h_inn_bed h_inn_dreamOf h_inn_listensIn h_inn_house_creak h_inn_house_cold h_inn_house_one h_inn_house_other h_inn_house_how h_inn_house_falls h_inn_house_ways h_notes_book h_notes_sort h_notes_one h_notes_other v_marked v_refusal_17 v_latestFault v_faultPlace v_inn_minutes v_inn_things v_inn_dreams v_inn_sleepers v_inn_listeners v_inn_house_rooms v_inn_house_doors v_notes_count v_notes_book v_notes_sort v_notes_one v_notes_other)) (As := [.int 1]) (rest := []) C (ctX10_refuse l E h h_reader h_inn h_chosen h_night h_marks h_notes h_casts v_marked v_refusal v_latestFault v_faultPlace N 1 r_17 v_refusal_17 hc_17) ml_X10_68 ⟨Nat.le_of_ble_eq_true rfl, Nat.le_of_ble_eq_true rfl⟩ hP hD hS 0 rfl rfl rfl [0] rfl rfl rfl rfl rfl hl.1 rfl (Nat.le_of_ble_eq_true rfl) ⟨Nat.zero_le _, Nat.zero_le _⟩ dX10_noteDoor_17 ?_
      clear hP hD hS; intro H locs hP hD hS
      cases hf
      rw [hQ]
      exact r_iret C hr hP hD hS rfl dX10_noteDoor_20
def wX10_strike (E : EN) (h h_reader h_inn h_chosen h_night h_marks h_notes h_casts h_notes_book h_notes_sort h_notes_one h_notes_other : Nat) (v_marked : Int32) (v_refusal : Int32) (v_latestFault : Int32) (v_faultPlace : Int32) (v_notes_count : Int32) : va_W := [(h, .inr (9, [.ref h_reader, .ref h_inn, .ref h_chosen, .ref h_night, .ref h_marks, .int v_marked, .ref h_notes, .ref h_casts, .int v_refusal, .int v_latestFault, .int v_faultPlace])), (h_notes, .inr (5, [.ref h_notes_book, .ref h_notes_sort, .ref h_notes_one, .ref h_notes_other, .int v_notes_count]))]
def fX10_strike (N : Nat) (v_notes_count : Int32) : Option (Int32 × Int32 × Int32) := if v_notes_count = 0 then ((fX10_deny N 6).bind (un2 fun (r_13 : Int32) (v_refusal_13 : Int32) => zg r_13 (some (r_13, v_refusal_13, v_notes_count))) else ((fX10_agree N).bind (un2 fun (r_31 : Int32) (v_refusal_31 : Int32) => zg r_31 (some (r_31, v_refusal_31, v_notes_count - 1)))
set_option maxHeartbeats 4000000 in
set_option maxRecDepth 100000 in
theorem ctX10_strike (l : Launch) (E : EN) (h h_reader h_inn h_chosen h_night h_marks h_notes h_casts h_notes_book h_notes_sort h_notes_one h_notes_other : Nat) (v_marked : Int32) (v_refusal : Int32) (v_latestFault : Int32) (v_faultPlace : Int32) (v_notes_count : Int32) (N : Nat) (z0 : Int32) (z1 : Int32) (z2 : Int32) (hf : fX10_strike N v_notes_count = some (z0, z1, z2)) : CTi l E yX10_strike cX10_strike 1 .boolean 1 21 [.ref h] (wX10_strike E h h_reader h_inn h_chosen h_night h_marks h_notes h_casts h_notes_book h_notes_sort h_notes_one h_notes_other v_marked v_refusal v_latestFault v_faultPlace v_notes_count) z0 (wX10_strike E h h_reader h_inn h_chosen h_night h_marks h_notes h_casts h_notes_book h_notes_sort h_notes_one h_notes_other v_marked z1 v_latestFault v_faultPlace z2) := by
  intro sz
  refine ct_body (by decide) (Nat.le_of_ble_eq_true rfl) ?_
  intro p e s m args below meth c A ls hAe C hr hin hP hD hS hl
  have C : CX p s m args meth c cX10_strike RX10 1 E A := C
  have hl : lv_has ls 1 [(0, .ref h)] := hl
  have hx := C.1
  have hb := C.2.1
  rw [hAe]
  clear hAe
  obtain ⟨Q, hQ⟩ : ∃ Q, Q = MQ below (Qi E A z0 (wX10_strike E h h_reader h_inn h_chosen h_night h_marks h_notes h_casts h_notes_book h_notes_sort h_notes_one h_notes_other v_marked z1 v_latestFault v_faultPlace z2)) args s 0 0 A := ⟨_, rfl⟩
  rw [← hQ]
  unfold fX10_strike at hf
  refine lv_aload_n hx hb dX10_strike_0 rfl (lv_at hl 0 rfl) ?_
  refine r_get C hP 0 rfl fl_X10_43 rfl dX10_strike_1 ?_
  refine r_get C hP 1 rfl fl_X10_256 rfl dX10_strike_4 ?_
  refine lv_if_ne (tgt := 17) hx hb dX10_strike_7 (by decide) (fun c_7 => ?_) (fun c_7 => ?_)
  · replace hf := it_f c_7 hf
    refine lv_aload_n hx hb dX10_strike_17 rfl (lv_at hl 0 rfl) ?_
    refine r_get C hP 0 rfl fl_X10_43 rfl dX10_strike_18 ?_
    refine lv_dup hx hb dX10_strike_21 rfl ?_
    refine r_get C hP 1 rfl fl_X10_256 rfl dX10_strike_22 ?_
    refine lv_iconst (v := 1) hx hb dX10_strike_25 (by decide) ?_
    refine lv_isub hx hb dX10_strike_26 ?_
    refine r_put (ws' := (wX10_strike E h h_reader h_inn h_chosen h_night h_marks h_notes h_casts h_notes_book h_notes_sort h_notes_one h_notes_other v_marked v_refusal v_latestFault v_faultPlace (v_notes_count - 1))) C hP hD hS 1 rfl fl_X10_256 rfl rfl (by decide) rfl dX10_strike_27 ?_
    clear hP hD hS; intro H locs hP hD hS
    refine lv_aload_n hx hb dX10_strike_30 rfl (lv_at hl 0 rfl) ?_
    obtain ⟨r_31, v_refusal_31, hc_31, hf⟩ := bd2 hf
    refine r_callVi (ws' := (wX10_strike E h h_reader h_inn h_chosen h_night h_marks h_notes h_casts h_notes_book h_notes_sort h_notes_one h_notes_other v_marked v_refusal_31 v_latestFault v_faultPlace (v_notes_count - 1))) (As := []) (rest := []) C (ctX10_agree l E h h_reader h_inn h_chosen h_night h_marks h_notes h_casts v_marked v_refusal v_latestFault v_faultPlace N r_31 v_refusal_31 hc_31) ml_X10_163 ⟨Nat.le_of_ble_eq_true rfl, Nat.le_of_ble_eq_true rfl⟩ hP hD hS 0 rfl rfl rfl [0] rfl rfl rfl rfl rfl hl.1 rfl (Nat.le_of_ble_eq_true rfl) ⟨Nat.zero_le _, Nat.zero_le _⟩ dX10_strike_31 ?_
    clear hP hD hS; intro H locs hP hD hS
    obtain ⟨hz_34, hf⟩ := zg_s hf
    cases hf
    rw [hQ]
    exact r_zret C hr hP hD hS hz_34 rfl dX10_strike_34
  · replace hf := it_t c_7 hf
    refine lv_aload_n hx hb dX10_strike_10 rfl (lv_at hl 0 rfl) ?_
    refine lv_bipush (v := 6) hx hb dX10_strike_11 (by decide) ?_
    obtain ⟨r_13, v_refusal_13, hc_13, hf⟩ := bd2 hf
    refine r_callVi (ws' := (wX10_strike E h h_reader h_inn h_chosen h_night h_marks h_notes h_casts h_notes_book h_notes_sort h_notes_one h_notes_other v_marked v_refusal_13 v_latestFault v_faultPlace v_notes_count)) (As := [.int 6]) (rest := []) C (ctX10_deny l E h h_reader h_inn h_chosen h_night h_marks h_notes h_casts v_marked v_refusal v_latestFault v_faultPlace N 6 r_13 v_refusal_13 hc_13) ml_X10_152 ⟨Nat.le_of_ble_eq_true rfl, Nat.le_of_ble_eq_true rfl⟩ hP hD hS 0 rfl rfl rfl [0] rfl rfl rfl rfl rfl hl.1 rfl (Nat.le_of_ble_eq_true rfl) ⟨Nat.zero_le _, Nat.zero_le _⟩ dX10_strike_13 ?_
    clear hP hD hS; intro H locs hP hD hS
    obtain ⟨hz_16, hf⟩ := zg_s hf
    cases hf
    rw [hQ]
    exact r_zret C hr hP hD hS hz_16 rfl dX10_strike_16
def wX10_areBooks (E : EN) : va_W := []
def fX10_areBooks (N : Nat) (p0 : Int32) : Option Int32 := (fX10_isBelow N p0 4).bind (un1 fun (r_2 : Int32) => zg r_2 (some r_2))
set_option maxHeartbeats 4000000 in
set_option maxRecDepth 100000 in
theorem ctX10_areBooks (l : Launch) (E : EN) (N : Nat) (p0 : Int32) (z0 : Int32) (hf : fX10_areBooks N p0 = some z0) : CTi l E yX10_areBooks cX10_areBooks 1 .boolean 1 21 [.int p0] (wX10_areBooks E) z0 (wX10_areBooks E) := by
  intro sz
  refine ct_body (by decide) (Nat.le_of_ble_eq_true rfl) ?_
  intro p e s m args below meth c A ls hAe C hr hin hP hD hS hl
  have C : CX p s m args meth c cX10_areBooks RX10 1 E A := C
  have hl : lv_has ls 1 [(0, .int p0)] := hl
  have hx := C.1
  have hb := C.2.1
  rw [hAe]
  clear hAe
  obtain ⟨Q, hQ⟩ : ∃ Q, Q = MQ below (Qi E A z0 (wX10_areBooks E)) args s 0 0 A := ⟨_, rfl⟩
  rw [← hQ]
  unfold fX10_areBooks at hf
  refine lv_iload_n hx hb dX10_areBooks_0 rfl (lv_at hl 0 rfl) ?_
  refine lv_iconst (v := 4) hx hb dX10_areBooks_1 (by decide) ?_
  obtain ⟨r_2, hc_2, hf⟩ := bd1 hf
  refine r_callSi (ws' := (wX10_areBooks E)) (As := [.int p0, .int 4]) (rest := []) C (ctX10_isBelow l E N p0 4 r_2 hc_2) ml_X10_121 ⟨Nat.le_of_ble_eq_true rfl, Nat.le_of_ble_eq_true rfl⟩ hP hD hS [] rfl rfl rfl rfl rfl hl.1 rfl (Nat.le_of_ble_eq_true rfl) ⟨Nat.zero_le _, Nat.zero_le _⟩ dX10_areBooks_2 ?_
  clear hP hD hS; intro H locs hP hD hS
  obtain ⟨hz_5, hf⟩ := zg_s hf
  cases hf
  rw [hQ]
  exact r_zret C hr hP hD hS hz_5 rfl dX10_areBooks_5
def wX3_wasHeard (E : EN) (h h_rows : Nat) (v_rows : Nat → Int64) : va_W := [(h, .inr (3, [.ref h_rows])), (h_rows, aJ E 256 v_rows)]
def fX3_wasHeard (N : Nat) (p0 : Int32) (p1 : Int32) (p2 : Int32) (v_rows : Nat → Int64) : Option Int32 := gd ((p0 * 4) + p1) 256 ((fX10_isBitSet N (v_rows ((p0 * 4) + p1).toNatClampNeg) p2).bind (un1 fun (r_11 : Int32) => zg r_11 (some r_11)))
set_option maxHeartbeats 4000000 in
set_option maxRecDepth 100000 in
theorem ctX3_wasHeard (l : Launch) (E : EN) (h h_rows : Nat) (v_rows : Nat → Int64) (N : Nat) (p0 : Int32) (p1 : Int32) (p2 : Int32) (z0 : Int32) (hf : fX3_wasHeard N p0 p1 p2 v_rows = some z0) : CTi l E yX3_wasHeard cX3_wasHeard 4 .boolean 1 22 [.ref h, .int p0, .int p1, .int p2] (wX3_wasHeard E h h_rows v_rows) z0 (wX3_wasHeard E h h_rows v_rows) := by
  intro sz
  refine ct_body (by decide) (Nat.le_of_ble_eq_true rfl) ?_
  intro p e s m args below meth c A ls hAe C hr hin hP hD hS hl
  have C : CX p s m args meth c cX3_wasHeard RX3 4 E A := C
  have hl : lv_has ls 4 [(0, .ref h), (1, .int p0), (2, .int p1), (3, .int p2)] := hl
  have hx := C.1
  have hb := C.2.1
  rw [hAe]
  clear hAe
  obtain ⟨Q, hQ⟩ : ∃ Q, Q = MQ below (Qi E A z0 (wX3_wasHeard E h h_rows v_rows)) args s 0 0 A := ⟨_, rfl⟩
  rw [← hQ]
  unfold fX3_wasHeard at hf
  refine lv_aload_n hx hb dX3_wasHeard_0 rfl (lv_at hl 0 rfl) ?_
  refine r_get C hP 0 rfl fl_X3_11 rfl dX3_wasHeard_1 ?_
  refine lv_iload_n hx hb dX3_wasHeard_4 rfl (lv_at hl 1 rfl) ?_
  refine lv_iconst (v := 4) hx hb dX3_wasHeard_5 (by decide) ?_
  refine lv_imul hx hb dX3_wasHeard_6 ?_
  refine lv_iload_n hx hb dX3_wasHeard_7 rfl (lv_at hl 2 rfl) ?_
  refine lv_iadd hx hb dX3_wasHeard_8 ?_
  obtain ⟨hi_9, hf⟩ := gd_s hf
  refine r_lald C hP 1 rfl hi_9 dX3_wasHeard_9 ?_
  refine lv_iload_n hx hb dX3_wasHeard_10 rfl (lv_at hl 3 rfl) ?_
  obtain ⟨r_11, hc_11, hf⟩ := bd1 hf
  refine r_callSi (ws' := (wX3_wasHeard E h h_rows v_rows)) (As := [.long (v_rows ((p0 * 4) + p1).toNatClampNeg), .int p2]) (rest := []) C (ctX10_isBitSet l E N (v_rows ((p0 * 4) + p1).toNatClampNeg) p2 r_11 hc_11) ml_X3_73 ⟨Nat.le_of_ble_eq_true rfl, Nat.le_of_ble_eq_true rfl⟩ hP hD hS [] rfl rfl rfl rfl rfl hl.1 rfl (Nat.le_of_ble_eq_true rfl) ⟨Nat.zero_le _, Nat.zero_le _⟩ dX3_wasHeard_11 ?_
  clear hP hD hS; intro H locs hP hD hS
  obtain ⟨hz_14, hf⟩ := zg_s hf
  cases hf
  rw [hQ]
  exact r_zret C hr hP hD hS hz_14 rfl dX3_wasHeard_14
def wX3_roomOfThing (E : EN) (h h_rows : Nat) (v_rows : Nat → Int64) : va_W := [(h, .inr (3, [.ref h_rows])), (h_rows, aJ E 256 v_rows)]
def fX3_roomOfThing (N : Nat) (p0 : Int32) (p1 : Int32) (v_rows : Nat → Int64) : Option Int32 := gd ((p0 * 4) + 3) 256 (some (((((v_rows ((p0 * 4) + 3).toNatClampNeg).toUInt64 >>> (((4 * p1) + 1).toInt64.toUInt64 &&& Int64.toUInt64 63)).toInt64).toInt32) &&& 7))
set_option maxHeartbeats 4000000 in
set_option maxRecDepth 100000 in
theorem ctX3_roomOfThing (l : Launch) (E : EN) (h h_rows : Nat) (v_rows : Nat → Int64) (N : Nat) (p0 : Int32) (p1 : Int32) (z0 : Int32) (hf : fX3_roomOfThing N p0 p1 v_rows = some z0) : CTi l E yX3_roomOfThing cX3_roomOfThing 3 .int 0 0 [.ref h, .int p0, .int p1] (wX3_roomOfThing E h h_rows v_rows) z0 (wX3_roomOfThing E h h_rows v_rows) := by
  intro sz
  refine ct_body (by decide) (Nat.le_of_ble_eq_true rfl) ?_
  intro p e s m args below meth c A ls hAe C hr hin hP hD hS hl
  have C : CX p s m args meth c cX3_roomOfThing RX3 3 E A := C
  have hl : lv_has ls 3 [(0, .ref h), (1, .int p0), (2, .int p1)] := hl
  have hx := C.1
  have hb := C.2.1
  rw [hAe]
  clear hAe
  obtain ⟨Q, hQ⟩ : ∃ Q, Q = MQ below (Qi E A z0 (wX3_roomOfThing E h h_rows v_rows)) args s 0 0 A := ⟨_, rfl⟩
  rw [← hQ]
  unfold fX3_roomOfThing at hf
  refine lv_aload_n hx hb dX3_roomOfThing_0 rfl (lv_at hl 0 rfl) ?_
  refine r_get C hP 0 rfl fl_X3_11 rfl dX3_roomOfThing_1 ?_
  refine lv_iload_n hx hb dX3_roomOfThing_4 rfl (lv_at hl 1 rfl) ?_
  refine lv_iconst (v := 4) hx hb dX3_roomOfThing_5 (by decide) ?_
  refine lv_imul hx hb dX3_roomOfThing_6 ?_
  refine lv_iconst (v := 3) hx hb dX3_roomOfThing_7 (by decide) ?_
  refine lv_iadd hx hb dX3_roomOfThing_8 ?_
  obtain ⟨hi_9, hf⟩ := gd_s hf
  refine r_lald C hP 1 rfl hi_9 dX3_roomOfThing_9 ?_
  refine lv_iconst (v := 4) hx hb dX3_roomOfThing_10 (by decide) ?_
  refine lv_iload_n hx hb dX3_roomOfThing_11 rfl (lv_at hl 2 rfl) ?_
  refine lv_imul hx hb dX3_roomOfThing_12 ?_
  refine lv_iconst (v := 1) hx hb dX3_roomOfThing_13 (by decide) ?_
  refine lv_iadd hx hb dX3_roomOfThing_14 ?_
  refine lv_lushr (v := ((v_rows ((p0 * 4) + 3).toNatClampNeg).toUInt64 >>> (((4 * p1) + 1).toInt64.toUInt64 &&& Int64.toUInt64 63)).toInt64) hx hb dX3_roomOfThing_15 rfl ?_
  refine lv_l2i (v := (((v_rows ((p0 * 4) + 3).toNatClampNeg).toUInt64 >>> (((4 * p1) + 1).toInt64.toUInt64 &&& Int64.toUInt64 63)).toInt64).toInt32) hx hb dX3_roomOfThing_16 rfl ?_
  refine lv_bipush (v := 7) hx hb dX3_roomOfThing_17 (by decide) ?_
  refine lv_iand hx hb dX3_roomOfThing_19 ?_
  cases hf
  rw [hQ]
  exact r_iret C hr hP hD hS rfl dX3_roomOfThing_20
def wX3_howIsDoor (E : EN) (h h_rows : Nat) (v_rows : Nat → Int64) : va_W := [(h, .inr (3, [.ref h_rows])), (h_rows, aJ E 256 v_rows)]
def fX3_howIsDoor (N : Nat) (p0 : Int32) (p1 : Int32) (v_rows : Nat → Int64) : Option Int32 := gd ((p0 * 4) + 3) 256 (some (((((v_rows ((p0 * 4) + 3).toNatClampNeg).toUInt64 >>> ((16 + (2 * p1)).toInt64.toUInt64 &&& Int64.toUInt64 63)).toInt64).toInt32) &&& 3))
set_option maxHeartbeats 4000000 in
set_option maxRecDepth 100000 in
theorem ctX3_howIsDoor (l : Launch) (E : EN) (h h_rows : Nat) (v_rows : Nat → Int64) (N : Nat) (p0 : Int32) (p1 : Int32) (z0 : Int32) (hf : fX3_howIsDoor N p0 p1 v_rows = some z0) : CTi l E yX3_howIsDoor cX3_howIsDoor 3 .int 0 0 [.ref h, .int p0, .int p1] (wX3_howIsDoor E h h_rows v_rows) z0 (wX3_howIsDoor E h h_rows v_rows) := by
  intro sz
  refine ct_body (by decide) (Nat.le_of_ble_eq_true rfl) ?_
  intro p e s m args below meth c A ls hAe C hr hin hP hD hS hl
  have C : CX p s m args meth c cX3_howIsDoor RX3 3 E A := C
  have hl : lv_has ls 3 [(0, .ref h), (1, .int p0), (2, .int p1)] := hl
  have hx := C.1
  have hb := C.2.1
  rw [hAe]
  clear hAe
  obtain ⟨Q, hQ⟩ : ∃ Q, Q = MQ below (Qi E A z0 (wX3_howIsDoor E h h_rows v_rows)) args s 0 0 A := ⟨_, rfl⟩
  rw [← hQ]
  unfold fX3_howIsDoor at hf
  refine lv_aload_n hx hb dX3_howIsDoor_0 rfl (lv_at hl 0 rfl) ?_
  refine r_get C hP 0 rfl fl_X3_11 rfl dX3_howIsDoor_1 ?_
  refine lv_iload_n hx hb dX3_howIsDoor_4 rfl (lv_at hl 1 rfl) ?_
  refine lv_iconst (v := 4) hx hb dX3_howIsDoor_5 (by decide) ?_
  refine lv_imul hx hb dX3_howIsDoor_6 ?_
  refine lv_iconst (v := 3) hx hb dX3_howIsDoor_7 (by decide) ?_
  refine lv_iadd hx hb dX3_howIsDoor_8 ?_
  obtain ⟨hi_9, hf⟩ := gd_s hf
  refine r_lald C hP 1 rfl hi_9 dX3_howIsDoor_9 ?_
  refine lv_bipush (v := 16) hx hb dX3_howIsDoor_10 (by decide) ?_
  refine lv_iconst (v := 2) hx hb dX3_howIsDoor_12 (by decide) ?_
  refine lv_iload_n hx hb dX3_howIsDoor_13 rfl (lv_at hl 2 rfl) ?_
  refine lv_imul hx hb dX3_howIsDoor_14 ?_
  refine lv_iadd hx hb dX3_howIsDoor_15 ?_
  refine lv_lushr (v := ((v_rows ((p0 * 4) + 3).toNatClampNeg).toUInt64 >>> ((16 + (2 * p1)).toInt64.toUInt64 &&& Int64.toUInt64 63)).toInt64) hx hb dX3_howIsDoor_16 rfl ?_
  refine lv_l2i (v := (((v_rows ((p0 * 4) + 3).toNatClampNeg).toUInt64 >>> ((16 + (2 * p1)).toInt64.toUInt64 &&& Int64.toUInt64 63)).toInt64).toInt32) hx hb dX3_howIsDoor_17 rfl ?_
  refine lv_iconst (v := 3) hx hb dX3_howIsDoor_18 (by decide) ?_
  refine lv_iand hx hb dX3_howIsDoor_19 ?_
  cases hf
  rw [hQ]
  exact r_iret C hr hP hD hS rfl dX3_howIsDoor_20
def wX5_isSo (E : EN) (h h_book h_sort h_one h_other a1 a1_rows : Nat) (v_count : Int32) (v_sort : Nat → Int32) (v_one : Nat → Int32) (v_a1_rows : Nat → Int64) (v_other : Nat → Int32) : va_W := [(h, .inr (5, [.ref h_book, .ref h_sort, .ref h_one, .ref h_other, .int v_count])), (h_sort, aI E 20 v_sort), (h_one, aI E 20 v_one), (a1, .inr (3, [.ref a1_rows])), (a1_rows, aJ E 256 v_a1_rows), (h_other, aI E 20 v_other)]
def fX5_isSo (N : Nat) (p0 : Int32) (p2 : Int32) (v_sort : Nat → Int32) (v_one : Nat → Int32) (v_a1_rows : Nat → Int64) (v_other : Nat → Int32) : Option Int32 := gd p0 20 (if (v_sort p0.toNatClampNeg) = 0 then (gd p0 20 (gd p0 20 ((fX3_wasHeard N p2 (v_one p0.toNatClampNeg) (v_other p0.toNatClampNeg) v_a1_rows).bind (un1 fun (r_46 : Int32) => zg r_46 (some r_46))))) else (if (v_sort p0.toNatClampNeg) = 1 then (gd p0 20 (gd p0 20 ((fX3_wasHeard N p2 (v_one p0.toNatClampNeg) (v_other p0.toNatClampNeg) v_a1_rows).bind (un1 fun (r_64 : Int32) => if r_64 = 0 then (some 1) else (some 0))))) else (if (v_sort p0.toNatClampNeg) = 2 then (gd p0 20 ((fX3_roomOfThing N p2 (v_one p0.toNatClampNeg) v_a1_rows).bind (un1 fun (r_84 : Int32) => gd p0 20 (if r_84 = (v_other p0.toNatClampNeg) then (some 1) else (some 0))))) else (gd p0 20 ((fX3_howIsDoor N p2 (v_one p0.toNatClampNeg) v_a1_rows).bind (un1 fun (r_110 : Int32) => gd p0 20 (if r_110 = (v_other p0.toNatClampNeg) then (some 1) else (some 0))))))))
set_option maxHeartbeats 4000000 in
set_option maxRecDepth 100000 in
theorem ctX5_isSo (l : Launch) (E : EN) (h h_book h_sort h_one h_other a1 a1_rows : Nat) (v_count : Int32) (v_sort : Nat → Int32) (v_one : Nat → Int32) (v_a1_rows : Nat → Int64) (v_other : Nat → Int32) (N : Nat) (p0 : Int32) (p2 : Int32) (z0 : Int32) (hf : fX5_isSo N p0 p2 v_sort v_one v_a1_rows v_other = some z0) : CTi l E yX5_isSo cX5_isSo 4 .boolean 2 45 [.ref h, .int p0, .ref a1, .int p2] (wX5_isSo E h h_book h_sort h_one h_other a1 a1_rows v_count v_sort v_one v_a1_rows v_other) z0 (wX5_isSo E h h_book h_sort h_one h_other a1 a1_rows v_count v_sort v_one v_a1_rows v_other) := by
  intro sz
  refine ct_body (by decide) (Nat.le_of_ble_eq_true rfl) ?_
  intro p e s m args below meth c A ls hAe C hr hin hP hD hS hl
  have C : CX p s m args meth c cX5_isSo RX5 4 E A := C
  have hl : lv_has ls 4 [(0, .ref h), (1, .int p0), (2, .ref a1), (3, .int p2)] := hl
  have hx := C.1
  have hb := C.2.1
  rw [hAe]
  clear hAe
  obtain ⟨Q, hQ⟩ : ∃ Q, Q = MQ below (Qi E A z0 (wX5_isSo E h h_book h_sort h_one h_other a1 a1_rows v_count v_sort v_one v_a1_rows v_other)) args s 0 0 A := ⟨_, rfl⟩
  rw [← hQ]
  unfold fX5_isSo at hf
  refine lv_aload_n hx hb dX5_isSo_0 rfl (lv_at hl 0 rfl) ?_
  refine r_get C hP 0 rfl fl_X5_15 rfl dX5_isSo_1 ?_
  refine lv_iload_n hx hb dX5_isSo_4 rfl (lv_at hl 1 rfl) ?_
  obtain ⟨hi_5, hf⟩ := gd_s hf
  refine r_iald C hP 1 rfl hi_5 dX5_isSo_5 ?_
  by_cases c_6_0 : (v_sort p0.toNatClampNeg) = 0
  · replace hf := it_t c_6_0 hf
    refine lv_tableIn (off := 26) (tgt := 32) hx hb dX5_isSo_6 (by rw [c_6_0]; decide) (by rw [c_6_0]; decide) (by rw [c_6_0]; rfl) (by decide) ?_
    refine lv_aload_n hx hb dX5_isSo_32 rfl (lv_at hl 2 rfl) ?_
    refine lv_iload_n hx hb dX5_isSo_33 rfl (lv_at hl 3 rfl) ?_
    refine lv_aload_n hx hb dX5_isSo_34 rfl (lv_at hl 0 rfl) ?_
    refine r_get C hP 0 rfl fl_X5_18 rfl dX5_isSo_35 ?_
    refine lv_iload_n hx hb dX5_isSo_38 rfl (lv_at hl 1 rfl) ?_
    obtain ⟨hi_39, hf⟩ := gd_s hf
    refine r_iald C hP 2 rfl hi_39 dX5_isSo_39 ?_
    refine lv_aload_n hx hb dX5_isSo_40 rfl (lv_at hl 0 rfl) ?_
    refine r_get C hP 0 rfl fl_X5_21 rfl dX5_isSo_41 ?_
    refine lv_iload_n hx hb dX5_isSo_44 rfl (lv_at hl 1 rfl) ?_
    obtain ⟨hi_45, hf⟩ := gd_s hf
    refine r_iald C hP 5 rfl hi_45 dX5_isSo_45 ?_
    obtain ⟨r_46, hc_46, hf⟩ := bd1 hf
    refine r_callVi (ws' := (wX5_isSo E h h_book h_sort h_one h_other a1 a1_rows v_count v_sort v_one v_a1_rows v_other)) (As := [.int p2, .int (v_one p0.toNatClampNeg), .int (v_other p0.toNatClampNeg)]) (rest := []) C (ctX3_wasHeard l E a1 a1_rows v_a1_rows N p2 (v_one p0.toNatClampNeg) (v_other p0.toNatClampNeg) r_46 hc_46) ml_X5_36 ⟨Nat.le_of_ble_eq_true rfl, Nat.le_of_ble_eq_true rfl⟩ hP hD hS 3 rfl rfl rfl [3, 4] rfl rfl rfl rfl rfl hl.1 rfl (Nat.le_of_ble_eq_true rfl) ⟨Nat.zero_le _, Nat.zero_le _⟩ dX5_isSo_46 ?_
    clear hP hD hS; intro H locs hP hD hS
    obtain ⟨hz_49, hf⟩ := zg_s hf
    cases hf
    rw [hQ]
    exact r_zret C hr hP hD hS hz_49 rfl dX5_isSo_49
  · replace hf := it_f c_6_0 hf
    by_cases c_6_1 : (v_sort p0.toNatClampNeg) = 1
    · replace hf := it_t c_6_1 hf
      refine lv_tableIn (off := 44) (tgt := 50) hx hb dX5_isSo_6 (by rw [c_6_1]; decide) (by rw [c_6_1]; decide) (by rw [c_6_1]; rfl) (by decide) ?_
      refine lv_aload_n hx hb dX5_isSo_50 rfl (lv_at hl 2 rfl) ?_
      refine lv_iload_n hx hb dX5_isSo_51 rfl (lv_at hl 3 rfl) ?_
      refine lv_aload_n hx hb dX5_isSo_52 rfl (lv_at hl 0 rfl) ?_
      refine r_get C hP 0 rfl fl_X5_18 rfl dX5_isSo_53 ?_
      refine lv_iload_n hx hb dX5_isSo_56 rfl (lv_at hl 1 rfl) ?_
      obtain ⟨hi_57, hf⟩ := gd_s hf
      refine r_iald C hP 2 rfl hi_57 dX5_isSo_57 ?_
      refine lv_aload_n hx hb dX5_isSo_58 rfl (lv_at hl 0 rfl) ?_
      refine r_get C hP 0 rfl fl_X5_21 rfl dX5_isSo_59 ?_
      refine lv_iload_n hx hb dX5_isSo_62 rfl (lv_at hl 1 rfl) ?_
      obtain ⟨hi_63, hf⟩ := gd_s hf
      refine r_iald C hP 5 rfl hi_63 dX5_isSo_63 ?_
      obtain ⟨r_64, hc_64, hf⟩ := bd1 hf
      refine r_callVi (ws' := (wX5_isSo E h h_book h_sort h_one h_other a1 a1_rows v_count v_sort v_one v_a1_rows v_other)) (As := [.int p2, .int (v_one p0.toNatClampNeg), .int (v_other p0.toNatClampNeg)]) (rest := []) C (ctX3_wasHeard l E a1 a1_rows v_a1_rows N p2 (v_one p0.toNatClampNeg) (v_other p0.toNatClampNeg) r_64 hc_64) ml_X5_36 ⟨Nat.le_of_ble_eq_true rfl, Nat.le_of_ble_eq_true rfl⟩ hP hD hS 3 rfl rfl rfl [3, 4] rfl rfl rfl rfl rfl hl.1 rfl (Nat.le_of_ble_eq_true rfl) ⟨Nat.zero_le _, Nat.zero_le _⟩ dX5_isSo_64 ?_
      clear hP hD hS; intro H locs hP hD hS
      refine lv_if_ne (tgt := 74) hx hb dX5_isSo_67 (by decide) (fun c_67 => ?_) (fun c_67 => ?_)
      · replace hf := it_f c_67 hf
        refine lv_iconst (v := 0) hx hb dX5_isSo_74 (by decide) ?_
        cases hf
        rw [hQ]
        exact r_zret C hr hP hD hS (Or.inl rfl) rfl dX5_isSo_75
      · replace hf := it_t c_67 hf
        refine lv_iconst (v := 1) hx hb dX5_isSo_70 (by decide) ?_
        refine lv_goto (tgt := 75) hx hb dX5_isSo_71 (by decide) ?_
        cases hf
        rw [hQ]
        exact r_zret C hr hP hD hS (Or.inr rfl) rfl dX5_isSo_75
    · replace hf := it_f c_6_1 hf
      by_cases c_6_2 : (v_sort p0.toNatClampNeg) = 2
      · replace hf := it_t c_6_2 hf
        refine lv_tableIn (off := 70) (tgt := 76) hx hb dX5_isSo_6 (by rw [c_6_2]; decide) (by rw [c_6_2]; decide) (by rw [c_6_2]; rfl) (by decide) ?_
        refine lv_aload_n hx hb dX5_isSo_76 rfl (lv_at hl 2 rfl) ?_
        refine lv_iload_n hx hb dX5_isSo_77 rfl (lv_at hl 3 rfl) ?_
        refine lv_aload_n hx hb dX5_isSo_78 rfl (lv_at hl 0 rfl) ?_
        refine r_get C hP 0 rfl fl_X5_18 rfl dX5_isSo_79 ?_
        refine lv_iload_n hx hb dX5_isSo_82 rfl (lv_at hl 1 rfl) ?_
        obtain ⟨hi_83, hf⟩ := gd_s hf
        refine r_iald C hP 2 rfl hi_83 dX5_isSo_83 ?_
        obtain ⟨r_84, hc_84, hf⟩ := bd1 hf
        refine r_callVi (ws' := (wX5_isSo E h h_book h_sort h_one h_other a1 a1_rows v_count v_sort v_one v_a1_rows v_other)) (As := [.int p2, .int (v_one p0.toNatClampNeg)]) (rest := []) C (ctX3_roomOfThing l E a1 a1_rows v_a1_rows N p2 (v_one p0.toNatClampNeg) r_84 hc_84) ml_X5_42 ⟨Nat.le_of_ble_eq_true rfl, Nat.le_of_ble_eq_true rfl⟩ hP hD hS 3 rfl rfl rfl [3, 4] rfl rfl rfl rfl rfl hl.1 rfl (Nat.le_of_ble_eq_true rfl) ⟨Nat.zero_le _, Nat.zero_le _⟩ dX5_isSo_84 ?_
        clear hP hD hS; intro H locs hP hD hS
        refine lv_aload_n hx hb dX5_isSo_87 rfl (lv_at hl 0 rfl) ?_
        refine r_get C hP 0 rfl fl_X5_21 rfl dX5_isSo_88 ?_
        refine lv_iload_n hx hb dX5_isSo_91 rfl (lv_at hl 1 rfl) ?_
        obtain ⟨hi_92, hf⟩ := gd_s hf
        refine r_iald C hP 5 rfl hi_92 dX5_isSo_92 ?_
        refine lv_icmp_ne (tgt := 100) hx hb dX5_isSo_93 (by decide) (fun c_93 => ?_) (fun c_93 => ?_)
        · replace hf := it_f c_93 hf
          refine lv_iconst (v := 0) hx hb dX5_isSo_100 (by decide) ?_
          cases hf
          rw [hQ]
          exact r_zret C hr hP hD hS (Or.inl rfl) rfl dX5_isSo_101
        · replace hf := it_t c_93 hf
          refine lv_iconst (v := 1) hx hb dX5_isSo_96 (by decide) ?_
          refine lv_goto (tgt := 101) hx hb dX5_isSo_97 (by decide) ?_
          cases hf
          rw [hQ]
          exact r_zret C hr hP hD hS (Or.inr rfl) rfl dX5_isSo_101
      · replace hf := it_f c_6_2 hf
        refine lv_tableOut (tgt := 102) hx hb dX5_isSo_6 (by have g0 := lv_neT (a := 0) c_6_0 (by decide); have g1 := lv_neT (a := 1) c_6_1 (by decide); have g2 := lv_neT (a := 2) c_6_2 (by decide); omega) (by decide) ?_
        refine lv_aload_n hx hb dX5_isSo_102 rfl (lv_at hl 2 rfl) ?_
        refine lv_iload_n hx hb dX5_isSo_103 rfl (lv_at hl 3 rfl) ?_
        refine lv_aload_n hx hb dX5_isSo_104 rfl (lv_at hl 0 rfl) ?_
        refine r_get C hP 0 rfl fl_X5_18 rfl dX5_isSo_105 ?_
        refine lv_iload_n hx hb dX5_isSo_108 rfl (lv_at hl 1 rfl) ?_
        obtain ⟨hi_109, hf⟩ := gd_s hf
        refine r_iald C hP 2 rfl hi_109 dX5_isSo_109 ?_
        obtain ⟨r_110, hc_110, hf⟩ := bd1 hf
        refine r_callVi (ws' := (wX5_isSo E h h_book h_sort h_one h_other a1 a1_rows v_count v_sort v_one v_a1_rows v_other)) (As := [.int p2, .int (v_one p0.toNatClampNeg)]) (rest := []) C (ctX3_howIsDoor l E a1 a1_rows v_a1_rows N p2 (v_one p0.toNatClampNeg) r_110 hc_110) ml_X5_46 ⟨Nat.le_of_ble_eq_true rfl, Nat.le_of_ble_eq_true rfl⟩ hP hD hS 3 rfl rfl rfl [3, 4] rfl rfl rfl rfl rfl hl.1 rfl (Nat.le_of_ble_eq_true rfl) ⟨Nat.zero_le _, Nat.zero_le _⟩ dX5_isSo_110 ?_
        clear hP hD hS; intro H locs hP hD hS
        refine lv_aload_n hx hb dX5_isSo_113 rfl (lv_at hl 0 rfl) ?_
        refine r_get C hP 0 rfl fl_X5_21 rfl dX5_isSo_114 ?_
        refine lv_iload_n hx hb dX5_isSo_117 rfl (lv_at hl 1 rfl) ?_
        obtain ⟨hi_118, hf⟩ := gd_s hf
        refine r_iald C hP 5 rfl hi_118 dX5_isSo_118 ?_
        refine lv_icmp_ne (tgt := 126) hx hb dX5_isSo_119 (by decide) (fun c_119 => ?_) (fun c_119 => ?_)
        · replace hf := it_f c_119 hf
          refine lv_iconst (v := 0) hx hb dX5_isSo_126 (by decide) ?_
          cases hf
          rw [hQ]
          exact r_zret C hr hP hD hS (Or.inl rfl) rfl dX5_isSo_127
        · replace hf := it_t c_119 hf
          refine lv_iconst (v := 1) hx hb dX5_isSo_122 (by decide) ?_
          refine lv_goto (tgt := 127) hx hb dX5_isSo_123 (by decide) ?_
          cases hf
          rw [hQ]
          exact r_zret C hr hP hD hS (Or.inr rfl) rfl dX5_isSo_127
