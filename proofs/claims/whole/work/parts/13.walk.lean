theorem dX12_isSleeper_0 : decode cX12_isSleeper 0 = .ok (.aload_n 0, 1) := by decide +kernel
theorem dX12_isSleeper_1 : decode cX12_isSleeper 1 = .ok (.getfield 358, 3) := by decide +kernel
theorem dX12_isSleeper_4 : decode cX12_isSleeper 4 = .ok (.ifnull 22, 3) := by decide +kernel
theorem dX12_isSleeper_7 : decode cX12_isSleeper 7 = .ok (.iload_n 1, 1) := by decide +kernel
theorem dX12_isSleeper_8 : decode cX12_isSleeper 8 = .ok (.ifCond .lt 18, 3) := by decide +kernel
theorem dX12_isSleeper_11 : decode cX12_isSleeper 11 = .ok (.iload_n 1, 1) := by decide +kernel
theorem dX12_isSleeper_12 : decode cX12_isSleeper 12 = .ok (.aload_n 0, 1) := by decide +kernel
theorem dX12_isSleeper_13 : decode cX12_isSleeper 13 = .ok (.getfield 358, 3) := by decide +kernel
theorem dX12_isSleeper_16 : decode cX12_isSleeper 16 = .ok (.getfield 247, 3) := by decide +kernel
theorem dX12_isSleeper_19 : decode cX12_isSleeper 19 = .ok (.if_icmp .ge 7, 3) := by decide +kernel
theorem dX12_isSleeper_22 : decode cX12_isSleeper 22 = .ok (.iconst 1, 1) := by decide +kernel
theorem dX12_isSleeper_23 : decode cX12_isSleeper 23 = .ok (.goto 4, 3) := by decide +kernel
theorem dX12_isSleeper_26 : decode cX12_isSleeper 26 = .ok (.iconst 0, 1) := by decide +kernel
theorem dX12_isSleeper_27 : decode cX12_isSleeper 27 = .ok (.ireturn, 1) := by decide +kernel
theorem dX12_dreams_0 : decode cX12_dreams 0 = .ok (.aload_n 0, 1) := by decide +kernel
theorem dX12_dreams_1 : decode cX12_dreams 1 = .ok (.iconst 0, 1) := by decide +kernel
theorem dX12_dreams_2 : decode cX12_dreams 2 = .ok (.putfield 71, 3) := by decide +kernel
theorem dX12_dreams_5 : decode cX12_dreams 5 = .ok (.aload_n 0, 1) := by decide +kernel
theorem dX12_dreams_6 : decode cX12_dreams 6 = .ok (.iload_n 1, 1) := by decide +kernel
theorem dX12_dreams_7 : decode cX12_dreams 7 = .ok (.invokevirtual 421, 3) := by decide +kernel
theorem dX12_dreams_10 : decode cX12_dreams 10 = .ok (.ifCond .eq 11, 3) := by decide +kernel
theorem dX12_dreams_13 : decode cX12_dreams 13 = .ok (.aload_n 0, 1) := by decide +kernel
theorem dX12_dreams_14 : decode cX12_dreams 14 = .ok (.iload_n 2, 1) := by decide +kernel
theorem dX12_dreams_15 : decode cX12_dreams 15 = .ok (.invokevirtual 382, 3) := by decide +kernel
theorem dX12_dreams_18 : decode cX12_dreams 18 = .ok (.ifCond .ne 9, 3) := by decide +kernel
theorem dX12_dreams_21 : decode cX12_dreams 21 = .ok (.aload_n 0, 1) := by decide +kernel
theorem dX12_dreams_22 : decode cX12_dreams 22 = .ok (.iconst 1, 1) := by decide +kernel
theorem dX12_dreams_23 : decode cX12_dreams 23 = .ok (.invokevirtual 415, 3) := by decide +kernel
theorem dX12_dreams_26 : decode cX12_dreams 26 = .ok (.ireturn, 1) := by decide +kernel
theorem dX12_dreams_27 : decode cX12_dreams 27 = .ok (.aload_n 0, 1) := by decide +kernel
theorem dX12_dreams_28 : decode cX12_dreams 28 = .ok (.getfield 33, 3) := by decide +kernel
theorem dX12_dreams_31 : decode cX12_dreams 31 = .ok (.iload_n 1, 1) := by decide +kernel
theorem dX12_dreams_32 : decode cX12_dreams 32 = .ok (.iload_n 2, 1) := by decide +kernel
theorem dX12_dreams_33 : decode cX12_dreams 33 = .ok (.iastore, 1) := by decide +kernel
theorem dX12_dreams_34 : decode cX12_dreams 34 = .ok (.aload_n 0, 1) := by decide +kernel
theorem dX12_dreams_35 : decode cX12_dreams 35 = .ok (.invokevirtual 418, 3) := by decide +kernel
theorem dX12_dreams_38 : decode cX12_dreams 38 = .ok (.ireturn, 1) := by decide +kernel
theorem dX12_passAll_0 : decode cX12_passAll 0 = .ok (.iconst 0, 1) := by decide +kernel
theorem dX12_passAll_1 : decode cX12_passAll 1 = .ok (.istore_n 2, 1) := by decide +kernel
theorem dX12_passAll_2 : decode cX12_passAll 2 = .ok (.iload_n 2, 1) := by decide +kernel
theorem dX12_passAll_3 : decode cX12_passAll 3 = .ok (.iload_n 1, 1) := by decide +kernel
theorem dX12_passAll_4 : decode cX12_passAll 4 = .ok (.if_icmp .ge 30, 3) := by decide +kernel
theorem dX12_passAll_7 : decode cX12_passAll 7 = .ok (.aload_n 0, 1) := by decide +kernel
theorem dX12_passAll_8 : decode cX12_passAll 8 = .ok (.getfield 36, 3) := by decide +kernel
theorem dX12_passAll_11 : decode cX12_passAll 11 = .ok (.bipush 49, 2) := by decide +kernel
theorem dX12_passAll_13 : decode cX12_passAll 13 = .ok (.iaload, 1) := by decide +kernel
theorem dX12_passAll_14 : decode cX12_passAll 14 = .ok (.aload_n 0, 1) := by decide +kernel
theorem dX12_passAll_15 : decode cX12_passAll 15 = .ok (.getfield 358, 3) := by decide +kernel
theorem dX12_passAll_18 : decode cX12_passAll 18 = .ok (.getfield 241, 3) := by decide +kernel
theorem dX12_passAll_21 : decode cX12_passAll 21 = .ok (.if_icmp .ge 13, 3) := by decide +kernel
theorem dX12_passAll_24 : decode cX12_passAll 24 = .ok (.aload_n 0, 1) := by decide +kernel
theorem dX12_passAll_25 : decode cX12_passAll 25 = .ok (.invokevirtual 424, 3) := by decide +kernel
theorem dX12_passAll_28 : decode cX12_passAll 28 = .ok (.iinc 2 1, 3) := by decide +kernel
theorem dX12_passAll_31 : decode cX12_passAll 31 = .ok (.goto (-29), 3) := by decide +kernel
theorem dX12_passAll_34 : decode cX12_passAll 34 = .ok (.iload_n 2, 1) := by decide +kernel
theorem dX12_passAll_35 : decode cX12_passAll 35 = .ok (.ireturn, 1) := by decide +kernel
theorem dX12_minutes_0 : decode cX12_minutes 0 = .ok (.aload_n 0, 1) := by decide +kernel
theorem dX12_minutes_1 : decode cX12_minutes 1 = .ok (.iconst 0, 1) := by decide +kernel
theorem dX12_minutes_2 : decode cX12_minutes 2 = .ok (.putfield 71, 3) := by decide +kernel
theorem dX12_minutes_5 : decode cX12_minutes 5 = .ok (.aload_n 0, 1) := by decide +kernel
theorem dX12_minutes_6 : decode cX12_minutes 6 = .ok (.getfield 358, 3) := by decide +kernel
theorem dX12_minutes_9 : decode cX12_minutes 9 = .ok (.ifnonnull 9, 3) := by decide +kernel
theorem dX12_minutes_18 : decode cX12_minutes 18 = .ok (.iload_n 1, 1) := by decide +kernel
theorem dX12_minutes_19 : decode cX12_minutes 19 = .ok (.iconst 1, 1) := by decide +kernel
theorem dX12_minutes_20 : decode cX12_minutes 20 = .ok (.bipush 40, 2) := by decide +kernel
theorem dX12_minutes_22 : decode cX12_minutes 22 = .ok (.invokestatic 149, 3) := by decide +kernel
theorem dX12_minutes_25 : decode cX12_minutes 25 = .ok (.ifCond .ne 9, 3) := by decide +kernel
theorem dX12_minutes_28 : decode cX12_minutes 28 = .ok (.aload_n 0, 1) := by decide +kernel
theorem dX12_minutes_29 : decode cX12_minutes 29 = .ok (.iconst 2, 1) := by decide +kernel
theorem dX12_minutes_30 : decode cX12_minutes 30 = .ok (.invokevirtual 77, 3) := by decide +kernel
theorem dX12_minutes_33 : decode cX12_minutes 33 = .ok (.ireturn, 1) := by decide +kernel
theorem dX12_minutes_34 : decode cX12_minutes 34 = .ok (.aload_n 0, 1) := by decide +kernel
theorem dX12_minutes_35 : decode cX12_minutes 35 = .ok (.getfield 36, 3) := by decide +kernel
theorem dX12_minutes_38 : decode cX12_minutes 38 = .ok (.bipush 49, 2) := by decide +kernel
theorem dX12_minutes_40 : decode cX12_minutes 40 = .ok (.iaload, 1) := by decide +kernel
theorem dX12_minutes_41 : decode cX12_minutes 41 = .ok (.aload_n 0, 1) := by decide +kernel
theorem dX12_minutes_42 : decode cX12_minutes 42 = .ok (.getfield 358, 3) := by decide +kernel
theorem dX12_minutes_45 : decode cX12_minutes 45 = .ok (.getfield 241, 3) := by decide +kernel
theorem dX12_minutes_48 : decode cX12_minutes 48 = .ok (.if_icmp .ne 12, 3) := by decide +kernel
theorem dX12_minutes_51 : decode cX12_minutes 51 = .ok (.aload_n 0, 1) := by decide +kernel
theorem dX12_minutes_52 : decode cX12_minutes 52 = .ok (.bipush 6, 2) := by decide +kernel
theorem dX12_minutes_54 : decode cX12_minutes 54 = .ok (.invokevirtual 77, 3) := by decide +kernel
theorem dX12_minutes_57 : decode cX12_minutes 57 = .ok (.goto 12, 3) := by decide +kernel
theorem dX12_minutes_60 : decode cX12_minutes 60 = .ok (.aload_n 0, 1) := by decide +kernel
theorem dX12_minutes_61 : decode cX12_minutes 61 = .ok (.aload_n 0, 1) := by decide +kernel
theorem dX12_minutes_62 : decode cX12_minutes 62 = .ok (.iload_n 1, 1) := by decide +kernel
theorem dX12_minutes_63 : decode cX12_minutes 63 = .ok (.invokevirtual 427, 3) := by decide +kernel
theorem dX12_minutes_66 : decode cX12_minutes 66 = .ok (.invokevirtual 81, 3) := by decide +kernel
theorem dX12_minutes_69 : decode cX12_minutes 69 = .ok (.ireturn, 1) := by decide +kernel
theorem dX12_minutes_12 : decode cX12_minutes 12 = .ok (.aload_n 0, 1) := by decide +kernel
theorem dX12_minutes_13 : decode cX12_minutes 13 = .ok (.iconst 1, 1) := by decide +kernel
theorem dX12_minutes_14 : decode cX12_minutes 14 = .ok (.invokevirtual 77, 3) := by decide +kernel
theorem dX12_minutes_17 : decode cX12_minutes 17 = .ok (.ireturn, 1) := by decide +kernel
theorem dX12_morning_0 : decode cX12_morning 0 = .ok (.aload_n 0, 1) := by decide +kernel
theorem dX12_morning_1 : decode cX12_morning 1 = .ok (.iconst 0, 1) := by decide +kernel
theorem dX12_morning_2 : decode cX12_morning 2 = .ok (.putfield 71, 3) := by decide +kernel
theorem dX12_morning_5 : decode cX12_morning 5 = .ok (.aload_n 0, 1) := by decide +kernel
theorem dX12_morning_6 : decode cX12_morning 6 = .ok (.getfield 358, 3) := by decide +kernel
theorem dX12_morning_9 : decode cX12_morning 9 = .ok (.ifnonnull 11, 3) := by decide +kernel
theorem dX12_morning_20 : decode cX12_morning 20 = .ok (.aload_n 0, 1) := by decide +kernel
theorem dX12_morning_21 : decode cX12_morning 21 = .ok (.aload_n 0, 1) := by decide +kernel
theorem dX12_morning_22 : decode cX12_morning 22 = .ok (.bipush 40, 2) := by decide +kernel
theorem dX12_morning_24 : decode cX12_morning 24 = .ok (.invokevirtual 427, 3) := by decide +kernel
theorem dX12_morning_27 : decode cX12_morning 27 = .ok (.invokevirtual 81, 3) := by decide +kernel
theorem dX12_morning_30 : decode cX12_morning 30 = .ok (.ireturn, 1) := by decide +kernel
theorem dX12_morning_12 : decode cX12_morning 12 = .ok (.aload_n 0, 1) := by decide +kernel
theorem dX12_morning_13 : decode cX12_morning 13 = .ok (.iconst 1, 1) := by decide +kernel
theorem dX12_morning_14 : decode cX12_morning 14 = .ok (.invokevirtual 77, 3) := by decide +kernel
theorem dX12_morning_17 : decode cX12_morning 17 = .ok (.goto 13, 3) := by decide +kernel
theorem dX12_sleeper_0 : decode cX12_sleeper 0 = .ok (.aload_n 0, 1) := by decide +kernel
theorem dX12_sleeper_1 : decode cX12_sleeper 1 = .ok (.iconst 0, 1) := by decide +kernel
theorem dX12_sleeper_2 : decode cX12_sleeper 2 = .ok (.putfield 71, 3) := by decide +kernel
theorem dX12_sleeper_5 : decode cX12_sleeper 5 = .ok (.aload_n 0, 1) := by decide +kernel
theorem dX12_sleeper_6 : decode cX12_sleeper 6 = .ok (.iload_n 1, 1) := by decide +kernel
theorem dX12_sleeper_7 : decode cX12_sleeper 7 = .ok (.invokevirtual 421, 3) := by decide +kernel
theorem dX12_sleeper_10 : decode cX12_sleeper 10 = .ok (.ifCond .eq 12, 3) := by decide +kernel
theorem dX12_sleeper_13 : decode cX12_sleeper 13 = .ok (.iload_n 2, 1) := by decide +kernel
theorem dX12_sleeper_14 : decode cX12_sleeper 14 = .ok (.iconst 0, 1) := by decide +kernel
theorem dX12_sleeper_15 : decode cX12_sleeper 15 = .ok (.iconst 4, 1) := by decide +kernel
theorem dX12_sleeper_16 : decode cX12_sleeper 16 = .ok (.invokestatic 149, 3) := by decide +kernel
theorem dX12_sleeper_19 : decode cX12_sleeper 19 = .ok (.ifCond .ne 9, 3) := by decide +kernel
theorem dX12_sleeper_22 : decode cX12_sleeper 22 = .ok (.aload_n 0, 1) := by decide +kernel
theorem dX12_sleeper_23 : decode cX12_sleeper 23 = .ok (.iconst 1, 1) := by decide +kernel
theorem dX12_sleeper_24 : decode cX12_sleeper 24 = .ok (.invokevirtual 77, 3) := by decide +kernel
theorem dX12_sleeper_27 : decode cX12_sleeper 27 = .ok (.ireturn, 1) := by decide +kernel
theorem dX12_sleeper_28 : decode cX12_sleeper 28 = .ok (.aload_n 0, 1) := by decide +kernel
theorem dX12_sleeper_29 : decode cX12_sleeper 29 = .ok (.aload_n 0, 1) := by decide +kernel
theorem dX12_sleeper_30 : decode cX12_sleeper 30 = .ok (.getfield 36, 3) := by decide +kernel
theorem dX12_sleeper_33 : decode cX12_sleeper 33 = .ok (.iload_n 2, 1) := by decide +kernel
theorem dX12_sleeper_34 : decode cX12_sleeper 34 = .ok (.ifCond .ne 7, 3) := by decide +kernel
theorem dX12_sleeper_37 : decode cX12_sleeper 37 = .ok (.iconst 0, 1) := by decide +kernel
theorem dX12_sleeper_38 : decode cX12_sleeper 38 = .ok (.goto 34, 3) := by decide +kernel
theorem dX12_sleeper_41 : decode cX12_sleeper 41 = .ok (.iload_n 2, 1) := by decide +kernel
theorem dX12_sleeper_42 : decode cX12_sleeper 42 = .ok (.iconst 1, 1) := by decide +kernel
theorem dX12_sleeper_43 : decode cX12_sleeper 43 = .ok (.if_icmp .ne 7, 3) := by decide +kernel
theorem dX12_sleeper_46 : decode cX12_sleeper 46 = .ok (.iconst 3, 1) := by decide +kernel
theorem dX12_sleeper_47 : decode cX12_sleeper 47 = .ok (.goto 25, 3) := by decide +kernel
theorem dX12_sleeper_50 : decode cX12_sleeper 50 = .ok (.iload_n 2, 1) := by decide +kernel
theorem dX12_sleeper_51 : decode cX12_sleeper 51 = .ok (.iconst 2, 1) := by decide +kernel
theorem dX12_sleeper_52 : decode cX12_sleeper 52 = .ok (.if_icmp .ne 8, 3) := by decide +kernel
theorem dX12_sleeper_55 : decode cX12_sleeper 55 = .ok (.bipush 6, 2) := by decide +kernel
theorem dX12_sleeper_57 : decode cX12_sleeper 57 = .ok (.goto 15, 3) := by decide +kernel
theorem dX12_sleeper_60 : decode cX12_sleeper 60 = .ok (.iload_n 2, 1) := by decide +kernel
theorem dX12_sleeper_61 : decode cX12_sleeper 61 = .ok (.iconst 3, 1) := by decide +kernel
theorem dX12_sleeper_62 : decode cX12_sleeper 62 = .ok (.if_icmp .ne 8, 3) := by decide +kernel
theorem dX12_sleeper_65 : decode cX12_sleeper 65 = .ok (.bipush 9, 2) := by decide +kernel
theorem dX12_sleeper_67 : decode cX12_sleeper 67 = .ok (.goto 5, 3) := by decide +kernel
theorem dX12_sleeper_70 : decode cX12_sleeper 70 = .ok (.bipush 12, 2) := by decide +kernel
theorem dX12_sleeper_72 : decode cX12_sleeper 72 = .ok (.iload_n 1, 1) := by decide +kernel
theorem dX12_sleeper_73 : decode cX12_sleeper 73 = .ok (.iadd, 1) := by decide +kernel
theorem dX12_sleeper_74 : decode cX12_sleeper 74 = .ok (.iaload, 1) := by decide +kernel
theorem dX12_sleeper_75 : decode cX12_sleeper 75 = .ok (.invokevirtual 81, 3) := by decide +kernel
theorem dX12_sleeper_78 : decode cX12_sleeper 78 = .ok (.ireturn, 1) := by decide +kernel
theorem dX12_isThing_0 : decode cX12_isThing 0 = .ok (.aload_n 0, 1) := by decide +kernel
theorem dX12_isThing_1 : decode cX12_isThing 1 = .ok (.getfield 358, 3) := by decide +kernel
theorem dX12_isThing_4 : decode cX12_isThing 4 = .ok (.ifnull 22, 3) := by decide +kernel
theorem dX12_isThing_7 : decode cX12_isThing 7 = .ok (.iload_n 1, 1) := by decide +kernel
theorem dX12_isThing_8 : decode cX12_isThing 8 = .ok (.ifCond .lt 18, 3) := by decide +kernel
theorem dX12_isThing_11 : decode cX12_isThing 11 = .ok (.iload_n 1, 1) := by decide +kernel
theorem dX12_isThing_12 : decode cX12_isThing 12 = .ok (.aload_n 0, 1) := by decide +kernel
theorem dX12_isThing_13 : decode cX12_isThing 13 = .ok (.getfield 358, 3) := by decide +kernel
theorem dX12_isThing_16 : decode cX12_isThing 16 = .ok (.getfield 315, 3) := by decide +kernel
theorem dX12_isThing_19 : decode cX12_isThing 19 = .ok (.if_icmp .ge 7, 3) := by decide +kernel
theorem dX12_isThing_22 : decode cX12_isThing 22 = .ok (.iconst 1, 1) := by decide +kernel
theorem dX12_isThing_23 : decode cX12_isThing 23 = .ok (.goto 4, 3) := by decide +kernel
theorem dX12_isThing_26 : decode cX12_isThing 26 = .ok (.iconst 0, 1) := by decide +kernel
theorem dX12_isThing_27 : decode cX12_isThing 27 = .ok (.ireturn, 1) := by decide +kernel
theorem dX12_thing_0 : decode cX12_thing 0 = .ok (.aload_n 0, 1) := by decide +kernel
theorem dX12_thing_1 : decode cX12_thing 1 = .ok (.iconst 0, 1) := by decide +kernel
theorem dX12_thing_2 : decode cX12_thing 2 = .ok (.putfield 71, 3) := by decide +kernel
theorem dX12_thing_5 : decode cX12_thing 5 = .ok (.aload_n 0, 1) := by decide +kernel
theorem dX12_thing_6 : decode cX12_thing 6 = .ok (.iload_n 1, 1) := by decide +kernel
theorem dX12_thing_7 : decode cX12_thing 7 = .ok (.invokevirtual 430, 3) := by decide +kernel
theorem dX12_thing_10 : decode cX12_thing 10 = .ok (.ifCond .eq 12, 3) := by decide +kernel
theorem dX12_thing_13 : decode cX12_thing 13 = .ok (.iload_n 2, 1) := by decide +kernel
theorem dX12_thing_14 : decode cX12_thing 14 = .ok (.iconst 0, 1) := by decide +kernel
theorem dX12_thing_15 : decode cX12_thing 15 = .ok (.iconst 2, 1) := by decide +kernel
theorem dX12_thing_16 : decode cX12_thing 16 = .ok (.invokestatic 149, 3) := by decide +kernel
theorem dX12_thing_19 : decode cX12_thing 19 = .ok (.ifCond .ne 9, 3) := by decide +kernel
theorem dX12_thing_22 : decode cX12_thing 22 = .ok (.aload_n 0, 1) := by decide +kernel
theorem dX12_thing_23 : decode cX12_thing 23 = .ok (.iconst 1, 1) := by decide +kernel
theorem dX12_thing_24 : decode cX12_thing 24 = .ok (.invokevirtual 77, 3) := by decide +kernel
theorem dX12_thing_27 : decode cX12_thing 27 = .ok (.ireturn, 1) := by decide +kernel
theorem dX12_thing_28 : decode cX12_thing 28 = .ok (.aload_n 0, 1) := by decide +kernel
theorem dX12_thing_29 : decode cX12_thing 29 = .ok (.iload_n 2, 1) := by decide +kernel
theorem dX12_thing_30 : decode cX12_thing 30 = .ok (.ifCond .ne 15, 3) := by decide +kernel
theorem dX12_thing_33 : decode cX12_thing 33 = .ok (.aload_n 0, 1) := by decide +kernel
theorem dX12_thing_34 : decode cX12_thing 34 = .ok (.getfield 36, 3) := by decide +kernel
theorem dX12_thing_37 : decode cX12_thing 37 = .ok (.bipush 15, 2) := by decide +kernel
theorem dX12_thing_39 : decode cX12_thing 39 = .ok (.iload_n 1, 1) := by decide +kernel
theorem dX12_thing_40 : decode cX12_thing 40 = .ok (.iadd, 1) := by decide +kernel
theorem dX12_thing_41 : decode cX12_thing 41 = .ok (.iaload, 1) := by decide +kernel
theorem dX12_thing_42 : decode cX12_thing 42 = .ok (.goto 25, 3) := by decide +kernel
theorem dX12_thing_45 : decode cX12_thing 45 = .ok (.iload_n 2, 1) := by decide +kernel
theorem dX12_thing_46 : decode cX12_thing 46 = .ok (.iconst 1, 1) := by decide +kernel
theorem dX12_thing_47 : decode cX12_thing 47 = .ok (.if_icmp .ne 15, 3) := by decide +kernel
theorem dX12_thing_50 : decode cX12_thing 50 = .ok (.aload_n 0, 1) := by decide +kernel
theorem dX12_thing_51 : decode cX12_thing 51 = .ok (.getfield 36, 3) := by decide +kernel
theorem dX12_thing_54 : decode cX12_thing 54 = .ok (.bipush 19, 2) := by decide +kernel
theorem dX12_thing_56 : decode cX12_thing 56 = .ok (.iload_n 1, 1) := by decide +kernel
theorem dX12_thing_57 : decode cX12_thing 57 = .ok (.iadd, 1) := by decide +kernel
theorem dX12_thing_58 : decode cX12_thing 58 = .ok (.iaload, 1) := by decide +kernel
theorem dX12_thing_59 : decode cX12_thing 59 = .ok (.goto 8, 3) := by decide +kernel
theorem dX12_thing_62 : decode cX12_thing 62 = .ok (.aload_n 0, 1) := by decide +kernel
theorem dX12_thing_63 : decode cX12_thing 63 = .ok (.iload_n 1, 1) := by decide +kernel
theorem dX12_thing_64 : decode cX12_thing 64 = .ok (.invokevirtual 400, 3) := by decide +kernel
theorem dX12_thing_67 : decode cX12_thing 67 = .ok (.invokevirtual 81, 3) := by decide +kernel
theorem dX12_thing_70 : decode cX12_thing 70 = .ok (.ireturn, 1) := by decide +kernel
theorem dX12_isDoor_0 : decode cX12_isDoor 0 = .ok (.aload_n 0, 1) := by decide +kernel
theorem dX12_isDoor_1 : decode cX12_isDoor 1 = .ok (.getfield 358, 3) := by decide +kernel
theorem dX12_isDoor_4 : decode cX12_isDoor 4 = .ok (.ifnull 22, 3) := by decide +kernel
theorem dX12_isDoor_7 : decode cX12_isDoor 7 = .ok (.iload_n 1, 1) := by decide +kernel
theorem dX12_isDoor_8 : decode cX12_isDoor 8 = .ok (.ifCond .lt 18, 3) := by decide +kernel
theorem dX12_isDoor_11 : decode cX12_isDoor 11 = .ok (.iload_n 1, 1) := by decide +kernel
theorem dX12_isDoor_12 : decode cX12_isDoor 12 = .ok (.aload_n 0, 1) := by decide +kernel
theorem dX12_isDoor_13 : decode cX12_isDoor 13 = .ok (.getfield 358, 3) := by decide +kernel
theorem dX12_isDoor_16 : decode cX12_isDoor 16 = .ok (.getfield 292, 3) := by decide +kernel
theorem dX12_isDoor_19 : decode cX12_isDoor 19 = .ok (.if_icmp .ge 7, 3) := by decide +kernel
theorem dX12_isDoor_22 : decode cX12_isDoor 22 = .ok (.iconst 1, 1) := by decide +kernel
theorem dX12_isDoor_23 : decode cX12_isDoor 23 = .ok (.goto 4, 3) := by decide +kernel
theorem dX12_isDoor_26 : decode cX12_isDoor 26 = .ok (.iconst 0, 1) := by decide +kernel
theorem dX12_isDoor_27 : decode cX12_isDoor 27 = .ok (.ireturn, 1) := by decide +kernel
theorem dX12_doorway_0 : decode cX12_doorway 0 = .ok (.aload_n 0, 1) := by decide +kernel
theorem dX12_doorway_1 : decode cX12_doorway 1 = .ok (.iconst 0, 1) := by decide +kernel
theorem dX12_doorway_2 : decode cX12_doorway 2 = .ok (.putfield 71, 3) := by decide +kernel
theorem dX12_doorway_5 : decode cX12_doorway 5 = .ok (.aload_n 0, 1) := by decide +kernel
theorem dX12_doorway_6 : decode cX12_doorway 6 = .ok (.iload_n 1, 1) := by decide +kernel
theorem dX12_doorway_7 : decode cX12_doorway 7 = .ok (.invokevirtual 433, 3) := by decide +kernel
theorem dX12_doorway_10 : decode cX12_doorway 10 = .ok (.ifCond .eq 12, 3) := by decide +kernel
theorem dX12_doorway_13 : decode cX12_doorway 13 = .ok (.iload_n 2, 1) := by decide +kernel
theorem dX12_doorway_14 : decode cX12_doorway 14 = .ok (.iconst 0, 1) := by decide +kernel
theorem dX12_doorway_15 : decode cX12_doorway 15 = .ok (.iconst 1, 1) := by decide +kernel
theorem dX12_doorway_16 : decode cX12_doorway 16 = .ok (.invokestatic 149, 3) := by decide +kernel
theorem dX12_doorway_19 : decode cX12_doorway 19 = .ok (.ifCond .ne 9, 3) := by decide +kernel
theorem dX12_doorway_22 : decode cX12_doorway 22 = .ok (.aload_n 0, 1) := by decide +kernel
theorem dX12_doorway_23 : decode cX12_doorway 23 = .ok (.iconst 1, 1) := by decide +kernel
theorem dX12_doorway_24 : decode cX12_doorway 24 = .ok (.invokevirtual 77, 3) := by decide +kernel
theorem dX12_doorway_27 : decode cX12_doorway 27 = .ok (.ireturn, 1) := by decide +kernel
theorem dX12_doorway_28 : decode cX12_doorway 28 = .ok (.aload_n 0, 1) := by decide +kernel
theorem dX12_doorway_29 : decode cX12_doorway 29 = .ok (.aload_n 0, 1) := by decide +kernel
theorem dX12_doorway_30 : decode cX12_doorway 30 = .ok (.getfield 36, 3) := by decide +kernel
theorem dX12_doorway_33 : decode cX12_doorway 33 = .ok (.iload_n 2, 1) := by decide +kernel
theorem dX12_doorway_34 : decode cX12_doorway 34 = .ok (.ifCond .ne 8, 3) := by decide +kernel
theorem dX12_doorway_37 : decode cX12_doorway 37 = .ok (.bipush 23, 2) := by decide +kernel
theorem dX12_doorway_39 : decode cX12_doorway 39 = .ok (.goto 5, 3) := by decide +kernel
theorem dX12_doorway_42 : decode cX12_doorway 42 = .ok (.bipush 33, 2) := by decide +kernel
theorem dX12_doorway_44 : decode cX12_doorway 44 = .ok (.iload_n 1, 1) := by decide +kernel
theorem dX12_doorway_45 : decode cX12_doorway 45 = .ok (.iadd, 1) := by decide +kernel
theorem dX12_doorway_46 : decode cX12_doorway 46 = .ok (.iaload, 1) := by decide +kernel
theorem dX12_doorway_47 : decode cX12_doorway 47 = .ok (.invokevirtual 81, 3) := by decide +kernel
theorem dX12_doorway_50 : decode cX12_doorway 50 = .ok (.ireturn, 1) := by decide +kernel
theorem dX12_isListener_0 : decode cX12_isListener 0 = .ok (.aload_n 0, 1) := by decide +kernel
theorem dX12_isListener_1 : decode cX12_isListener 1 = .ok (.getfield 358, 3) := by decide +kernel
theorem dX12_isListener_4 : decode cX12_isListener 4 = .ok (.ifnull 22, 3) := by decide +kernel
theorem dX12_isListener_7 : decode cX12_isListener 7 = .ok (.iload_n 1, 1) := by decide +kernel
theorem dX12_isListener_8 : decode cX12_isListener 8 = .ok (.ifCond .lt 18, 3) := by decide +kernel
theorem dX12_isListener_11 : decode cX12_isListener 11 = .ok (.iload_n 1, 1) := by decide +kernel
theorem dX12_isListener_12 : decode cX12_isListener 12 = .ok (.aload_n 0, 1) := by decide +kernel
theorem dX12_isListener_13 : decode cX12_isListener 13 = .ok (.getfield 358, 3) := by decide +kernel
theorem dX12_isListener_16 : decode cX12_isListener 16 = .ok (.getfield 346, 3) := by decide +kernel
theorem dX12_isListener_19 : decode cX12_isListener 19 = .ok (.if_icmp .ge 7, 3) := by decide +kernel
theorem dX12_isListener_22 : decode cX12_isListener 22 = .ok (.iconst 1, 1) := by decide +kernel
theorem dX12_isListener_23 : decode cX12_isListener 23 = .ok (.goto 4, 3) := by decide +kernel
theorem dX12_isListener_26 : decode cX12_isListener 26 = .ok (.iconst 0, 1) := by decide +kernel
theorem dX12_isListener_27 : decode cX12_isListener 27 = .ok (.ireturn, 1) := by decide +kernel
theorem dX12_hears_0 : decode cX12_hears 0 = .ok (.aload_n 0, 1) := by decide +kernel
theorem dX12_hears_1 : decode cX12_hears 1 = .ok (.getfield 36, 3) := by decide +kernel
theorem dX12_hears_4 : decode cX12_hears 4 = .ok (.bipush 43, 2) := by decide +kernel
theorem dX12_hears_6 : decode cX12_hears 6 = .ok (.iconst 2, 1) := by decide +kernel
theorem dX12_hears_7 : decode cX12_hears 7 = .ok (.iload_n 1, 1) := by decide +kernel
theorem dX12_hears_8 : decode cX12_hears 8 = .ok (.imul, 1) := by decide +kernel
theorem dX12_hears_9 : decode cX12_hears 9 = .ok (.iadd, 1) := by decide +kernel
theorem dX12_hears_10 : decode cX12_hears 10 = .ok (.iload_n 2, 1) := by decide +kernel
theorem dX12_hears_11 : decode cX12_hears 11 = .ok (.iconst 1, 1) := by decide +kernel
theorem dX12_hears_12 : decode cX12_hears 12 = .ok (.isub, 1) := by decide +kernel
theorem dX12_hears_13 : decode cX12_hears 13 = .ok (.bipush 20, 2) := by decide +kernel
theorem dX12_hears_15 : decode cX12_hears 15 = .ok (.idiv, 1) := by decide +kernel
theorem dX12_hears_16 : decode cX12_hears 16 = .ok (.iadd, 1) := by decide +kernel
theorem dX12_hears_17 : decode cX12_hears 17 = .ok (.iaload, 1) := by decide +kernel
theorem dX12_hears_18 : decode cX12_hears 18 = .ok (.iload_n 2, 1) := by decide +kernel
theorem dX12_hears_19 : decode cX12_hears 19 = .ok (.iconst 1, 1) := by decide +kernel
theorem dX12_hears_20 : decode cX12_hears 20 = .ok (.isub, 1) := by decide +kernel
theorem dX12_hears_21 : decode cX12_hears 21 = .ok (.bipush 20, 2) := by decide +kernel
theorem dX12_hears_23 : decode cX12_hears 23 = .ok (.irem, 1) := by decide +kernel
theorem dX12_hears_24 : decode cX12_hears 24 = .ok (.invokestatic 372, 3) := by decide +kernel
theorem dX12_hears_27 : decode cX12_hears 27 = .ok (.ireturn, 1) := by decide +kernel
theorem dX12_heard_0 : decode cX12_heard 0 = .ok (.aload_n 0, 1) := by decide +kernel
theorem dX12_heard_1 : decode cX12_heard 1 = .ok (.iconst 0, 1) := by decide +kernel
theorem dX12_heard_2 : decode cX12_heard 2 = .ok (.putfield 71, 3) := by decide +kernel
theorem dX12_heard_5 : decode cX12_heard 5 = .ok (.aload_n 0, 1) := by decide +kernel
theorem dX12_heard_6 : decode cX12_heard 6 = .ok (.iload_n 1, 1) := by decide +kernel
theorem dX12_heard_7 : decode cX12_heard 7 = .ok (.invokevirtual 436, 3) := by decide +kernel
theorem dX12_heard_10 : decode cX12_heard 10 = .ok (.ifCond .eq 39, 3) := by decide +kernel
theorem dX12_heard_13 : decode cX12_heard 13 = .ok (.iload_n 2, 1) := by decide +kernel
theorem dX12_heard_14 : decode cX12_heard 14 = .ok (.iconst 1, 1) := by decide +kernel
theorem dX12_heard_15 : decode cX12_heard 15 = .ok (.aload_n 0, 1) := by decide +kernel
theorem dX12_heard_16 : decode cX12_heard 16 = .ok (.getfield 36, 3) := by decide +kernel
theorem dX12_heard_19 : decode cX12_heard 19 = .ok (.bipush 49, 2) := by decide +kernel
theorem dX12_heard_21 : decode cX12_heard 21 = .ok (.iaload, 1) := by decide +kernel
theorem dX12_heard_22 : decode cX12_heard 22 = .ok (.invokestatic 149, 3) := by decide +kernel
theorem dX12_heard_25 : decode cX12_heard 25 = .ok (.ifCond .eq 24, 3) := by decide +kernel
theorem dX12_heard_28 : decode cX12_heard 28 = .ok (.aload_n 0, 1) := by decide +kernel
theorem dX12_heard_29 : decode cX12_heard 29 = .ok (.aload_n 0, 1) := by decide +kernel
theorem dX12_heard_30 : decode cX12_heard 30 = .ok (.iload_n 1, 1) := by decide +kernel
theorem dX12_heard_31 : decode cX12_heard 31 = .ok (.iload_n 2, 1) := by decide +kernel
theorem dX12_heard_32 : decode cX12_heard 32 = .ok (.invokevirtual 439, 3) := by decide +kernel
theorem dX12_heard_35 : decode cX12_heard 35 = .ok (.ifCond .eq 7, 3) := by decide +kernel
theorem dX12_heard_38 : decode cX12_heard 38 = .ok (.iconst 1, 1) := by decide +kernel
theorem dX12_heard_39 : decode cX12_heard 39 = .ok (.goto 4, 3) := by decide +kernel
theorem dX12_heard_42 : decode cX12_heard 42 = .ok (.iconst 0, 1) := by decide +kernel
theorem dX12_heard_43 : decode cX12_heard 43 = .ok (.invokevirtual 81, 3) := by decide +kernel
theorem dX12_heard_46 : decode cX12_heard 46 = .ok (.goto 8, 3) := by decide +kernel
theorem dX12_heard_49 : decode cX12_heard 49 = .ok (.aload_n 0, 1) := by decide +kernel
theorem dX12_heard_50 : decode cX12_heard 50 = .ok (.iconst 1, 1) := by decide +kernel
theorem dX12_heard_51 : decode cX12_heard 51 = .ok (.invokevirtual 77, 3) := by decide +kernel
theorem dX12_heard_54 : decode cX12_heard 54 = .ok (.ireturn, 1) := by decide +kernel
theorem dX12_creaks_0 : decode cX12_creaks 0 = .ok (.aload_n 0, 1) := by decide +kernel
theorem dX12_creaks_1 : decode cX12_creaks 1 = .ok (.iconst 0, 1) := by decide +kernel
theorem dX12_creaks_2 : decode cX12_creaks 2 = .ok (.putfield 71, 3) := by decide +kernel
theorem dX12_creaks_5 : decode cX12_creaks 5 = .ok (.aload_n 0, 1) := by decide +kernel
theorem dX12_creaks_6 : decode cX12_creaks 6 = .ok (.iload_n 1, 1) := by decide +kernel
theorem dX12_creaks_7 : decode cX12_creaks 7 = .ok (.invokevirtual 436, 3) := by decide +kernel
theorem dX12_creaks_10 : decode cX12_creaks 10 = .ok (.ifCond .ne 9, 3) := by decide +kernel
theorem dX12_creaks_13 : decode cX12_creaks 13 = .ok (.aload_n 0, 1) := by decide +kernel
theorem dX12_creaks_14 : decode cX12_creaks 14 = .ok (.iconst 1, 1) := by decide +kernel
theorem dX12_creaks_15 : decode cX12_creaks 15 = .ok (.invokevirtual 77, 3) := by decide +kernel
theorem dX12_creaks_18 : decode cX12_creaks 18 = .ok (.ireturn, 1) := by decide +kernel
theorem dX12_creaks_19 : decode cX12_creaks 19 = .ok (.iconst 0, 1) := by decide +kernel
theorem dX12_creaks_20 : decode cX12_creaks 20 = .ok (.istore_n 2, 1) := by decide +kernel
theorem dX12_creaks_21 : decode cX12_creaks 21 = .ok (.iconst 1, 1) := by decide +kernel
theorem dX12_creaks_22 : decode cX12_creaks 22 = .ok (.istore_n 3, 1) := by decide +kernel
theorem dX12_creaks_23 : decode cX12_creaks 23 = .ok (.iload_n 3, 1) := by decide +kernel
theorem dX12_creaks_24 : decode cX12_creaks 24 = .ok (.aload_n 0, 1) := by decide +kernel
theorem dX12_creaks_25 : decode cX12_creaks 25 = .ok (.getfield 36, 3) := by decide +kernel
theorem dX12_creaks_28 : decode cX12_creaks 28 = .ok (.bipush 49, 2) := by decide +kernel
theorem dX12_creaks_30 : decode cX12_creaks 30 = .ok (.iaload, 1) := by decide +kernel
theorem dX12_creaks_31 : decode cX12_creaks 31 = .ok (.if_icmp .gt 26, 3) := by decide +kernel
theorem dX12_creaks_34 : decode cX12_creaks 34 = .ok (.iload_n 2, 1) := by decide +kernel
theorem dX12_creaks_35 : decode cX12_creaks 35 = .ok (.aload_n 0, 1) := by decide +kernel
theorem dX12_creaks_36 : decode cX12_creaks 36 = .ok (.iload_n 1, 1) := by decide +kernel
theorem dX12_creaks_37 : decode cX12_creaks 37 = .ok (.iload_n 3, 1) := by decide +kernel
theorem dX12_creaks_38 : decode cX12_creaks 38 = .ok (.invokevirtual 439, 3) := by decide +kernel
theorem dX12_creaks_41 : decode cX12_creaks 41 = .ok (.ifCond .eq 7, 3) := by decide +kernel
theorem dX12_creaks_44 : decode cX12_creaks 44 = .ok (.iconst 1, 1) := by decide +kernel
theorem dX12_creaks_45 : decode cX12_creaks 45 = .ok (.goto 4, 3) := by decide +kernel
theorem dX12_creaks_48 : decode cX12_creaks 48 = .ok (.iconst 0, 1) := by decide +kernel
theorem dX12_creaks_49 : decode cX12_creaks 49 = .ok (.iadd, 1) := by decide +kernel
theorem dX12_creaks_50 : decode cX12_creaks 50 = .ok (.istore_n 2, 1) := by decide +kernel
theorem dX12_creaks_51 : decode cX12_creaks 51 = .ok (.iinc 3 1, 3) := by decide +kernel
theorem dX12_creaks_54 : decode cX12_creaks 54 = .ok (.goto (-31), 3) := by decide +kernel
theorem dX12_creaks_57 : decode cX12_creaks 57 = .ok (.aload_n 0, 1) := by decide +kernel
theorem dX12_creaks_58 : decode cX12_creaks 58 = .ok (.iload_n 2, 1) := by decide +kernel
theorem dX12_creaks_59 : decode cX12_creaks 59 = .ok (.invokevirtual 81, 3) := by decide +kernel
theorem dX12_creaks_62 : decode cX12_creaks 62 = .ok (.ireturn, 1) := by decide +kernel
theorem dX12_plays_0 : decode cX12_plays 0 = .ok (.aload_n 0, 1) := by decide +kernel
theorem dX12_plays_1 : decode cX12_plays 1 = .ok (.iload_n 1, 1) := by decide +kernel
theorem dX12_plays_2 : decode cX12_plays 2 = .ok (.invokevirtual 369, 3) := by decide +kernel
theorem dX12_plays_5 : decode cX12_plays 5 = .ok (.aload_n 0, 1) := by decide +kernel
theorem dX12_plays_6 : decode cX12_plays 6 = .ok (.iload_n 2, 1) := by decide +kernel
theorem dX12_plays_7 : decode cX12_plays 7 = .ok (.invokevirtual 427, 3) := by decide +kernel
theorem dX12_plays_10 : decode cX12_plays 10 = .ok (.pop, 1) := by decide +kernel
theorem dX12_plays_11 : decode cX12_plays 11 = .ok (.return_, 1) := by decide +kernel
theorem dX12_called_0 : decode cX12_called 0 = .ok (.aload_n 0, 1) := by decide +kernel
theorem dX12_called_1 : decode cX12_called 1 = .ok (.iconst 0, 1) := by decide +kernel
theorem dX12_called_2 : decode cX12_called 2 = .ok (.putfield 71, 3) := by decide +kernel
theorem dX12_called_5 : decode cX12_called 5 = .ok (.aload_n 0, 1) := by decide +kernel
theorem dX12_called_6 : decode cX12_called 6 = .ok (.iload_n 1, 1) := by decide +kernel
theorem dX12_called_7 : decode cX12_called 7 = .ok (.invokevirtual 412, 3) := by decide +kernel
theorem dX12_called_10 : decode cX12_called 10 = .ok (.ifCond .eq 11, 3) := by decide +kernel
theorem dX12_called_13 : decode cX12_called 13 = .ok (.aload_n 0, 1) := by decide +kernel
theorem dX12_called_14 : decode cX12_called 14 = .ok (.iload_n 2, 1) := by decide +kernel
theorem dX12_called_15 : decode cX12_called 15 = .ok (.invokevirtual 421, 3) := by decide +kernel
theorem dX12_called_18 : decode cX12_called 18 = .ok (.ifCond .ne 9, 3) := by decide +kernel
theorem dX12_called_21 : decode cX12_called 21 = .ok (.aload_n 0, 1) := by decide +kernel
theorem dX12_called_22 : decode cX12_called 22 = .ok (.iconst 1, 1) := by decide +kernel
theorem dX12_called_23 : decode cX12_called 23 = .ok (.invokevirtual 77, 3) := by decide +kernel
theorem dX12_called_26 : decode cX12_called 26 = .ok (.ireturn, 1) := by decide +kernel
theorem dX12_called_27 : decode cX12_called 27 = .ok (.iload_n 3, 1) := by decide +kernel
theorem dX12_called_28 : decode cX12_called 28 = .ok (.iconst 0, 1) := by decide +kernel
theorem dX12_called_29 : decode cX12_called 29 = .ok (.aload_n 0, 1) := by decide +kernel
theorem dX12_called_30 : decode cX12_called 30 = .ok (.getfield 358, 3) := by decide +kernel
theorem dX12_called_33 : decode cX12_called 33 = .ok (.getfield 241, 3) := by decide +kernel
theorem dX12_called_36 : decode cX12_called 36 = .ok (.invokestatic 149, 3) := by decide +kernel
theorem dX12_called_39 : decode cX12_called 39 = .ok (.ifCond .ne 9, 3) := by decide +kernel
theorem dX12_called_42 : decode cX12_called 42 = .ok (.aload_n 0, 1) := by decide +kernel
theorem dX12_called_43 : decode cX12_called 43 = .ok (.iconst 2, 1) := by decide +kernel
theorem dX12_called_44 : decode cX12_called 44 = .ok (.invokevirtual 77, 3) := by decide +kernel
theorem dX12_called_47 : decode cX12_called 47 = .ok (.ireturn, 1) := by decide +kernel
theorem dX12_called_48 : decode cX12_called 48 = .ok (.aload_n 0, 1) := by decide +kernel
theorem dX12_called_49 : decode cX12_called 49 = .ok (.aload_n 0, 1) := by decide +kernel
theorem dX12_called_50 : decode cX12_called 50 = .ok (.getfield 27, 3) := by decide +kernel
theorem dX12_called_53 : decode cX12_called 53 = .ok (.putfield 36, 3) := by decide +kernel
theorem dX12_called_56 : decode cX12_called 56 = .ok (.iconst 0, 1) := by decide +kernel
theorem dX12_called_57 : decode cX12_called 57 = .ok (.istore 4, 2) := by decide +kernel
theorem dX12_called_59 : decode cX12_called 59 = .ok (.iload 4, 2) := by decide +kernel
theorem dX12_called_61 : decode cX12_called 61 = .ok (.aload_n 0, 1) := by decide +kernel
theorem dX12_called_62 : decode cX12_called 62 = .ok (.getfield 358, 3) := by decide +kernel
theorem dX12_called_65 : decode cX12_called 65 = .ok (.getfield 247, 3) := by decide +kernel
theorem dX12_called_68 : decode cX12_called 68 = .ok (.if_icmp .ge 26, 3) := by decide +kernel
theorem dX12_called_71 : decode cX12_called 71 = .ok (.aload_n 0, 1) := by decide +kernel
theorem dX12_called_72 : decode cX12_called 72 = .ok (.getfield 36, 3) := by decide +kernel
theorem dX12_called_75 : decode cX12_called 75 = .ok (.bipush 12, 2) := by decide +kernel
theorem dX12_called_77 : decode cX12_called 77 = .ok (.iload 4, 2) := by decide +kernel
theorem dX12_called_79 : decode cX12_called 79 = .ok (.iadd, 1) := by decide +kernel
theorem dX12_called_80 : decode cX12_called 80 = .ok (.aload_n 0, 1) := by decide +kernel
theorem dX12_called_81 : decode cX12_called 81 = .ok (.getfield 33, 3) := by decide +kernel
theorem dX12_called_84 : decode cX12_called 84 = .ok (.iload 4, 2) := by decide +kernel
theorem dX12_called_86 : decode cX12_called 86 = .ok (.iaload, 1) := by decide +kernel
theorem dX12_called_87 : decode cX12_called 87 = .ok (.iastore, 1) := by decide +kernel
theorem dX12_called_88 : decode cX12_called 88 = .ok (.iinc 4 1, 3) := by decide +kernel
theorem dX12_called_91 : decode cX12_called 91 = .ok (.goto (-32), 3) := by decide +kernel
theorem dX12_called_94 : decode cX12_called 94 = .ok (.aload_n 0, 1) := by decide +kernel
theorem dX12_called_95 : decode cX12_called 95 = .ok (.iload_n 1, 1) := by decide +kernel
theorem dX12_called_96 : decode cX12_called 96 = .ok (.iload_n 3, 1) := by decide +kernel
theorem dX12_called_97 : decode cX12_called 97 = .ok (.invokevirtual 442, 3) := by decide +kernel
theorem dX12_called_100 : decode cX12_called 100 = .ok (.aload_n 0, 1) := by decide +kernel
theorem dX12_called_101 : decode cX12_called 101 = .ok (.getfield 36, 3) := by decide +kernel
theorem dX12_called_104 : decode cX12_called 104 = .ok (.iconst 0, 1) := by decide +kernel
theorem dX12_called_105 : decode cX12_called 105 = .ok (.iload_n 2, 1) := by decide +kernel
theorem dX12_called_106 : decode cX12_called 106 = .ok (.iadd, 1) := by decide +kernel
theorem dX12_called_107 : decode cX12_called 107 = .ok (.iaload, 1) := by decide +kernel
theorem dX12_called_108 : decode cX12_called 108 = .ok (.istore 4, 2) := by decide +kernel
theorem dX12_called_110 : decode cX12_called 110 = .ok (.aload_n 0, 1) := by decide +kernel
theorem dX12_called_111 : decode cX12_called 111 = .ok (.aload_n 0, 1) := by decide +kernel
theorem dX12_called_112 : decode cX12_called 112 = .ok (.getfield 24, 3) := by decide +kernel
theorem dX12_called_115 : decode cX12_called 115 = .ok (.putfield 36, 3) := by decide +kernel
theorem dX12_called_118 : decode cX12_called 118 = .ok (.aload_n 0, 1) := by decide +kernel
theorem dX12_called_119 : decode cX12_called 119 = .ok (.iload 4, 2) := by decide +kernel
theorem dX12_called_121 : decode cX12_called 121 = .ok (.invokevirtual 81, 3) := by decide +kernel
theorem dX12_called_124 : decode cX12_called 124 = .ok (.ireturn, 1) := by decide +kernel
theorem dX12_mark_0 : decode cX12_mark 0 = .ok (.aload_n 0, 1) := by decide +kernel
theorem dX12_mark_1 : decode cX12_mark 1 = .ok (.iconst 0, 1) := by decide +kernel
theorem dX12_mark_2 : decode cX12_mark 2 = .ok (.putfield 71, 3) := by decide +kernel
theorem dX12_mark_5 : decode cX12_mark 5 = .ok (.aload_n 0, 1) := by decide +kernel
theorem dX12_mark_6 : decode cX12_mark 6 = .ok (.getfield 358, 3) := by decide +kernel
theorem dX12_mark_9 : decode cX12_mark 9 = .ok (.ifnonnull 9, 3) := by decide +kernel
theorem dX12_mark_18 : decode cX12_mark 18 = .ok (.aload_n 0, 1) := by decide +kernel
theorem dX12_mark_19 : decode cX12_mark 19 = .ok (.getfield 363, 3) := by decide +kernel
theorem dX12_mark_22 : decode cX12_mark 22 = .ok (.iconst 3, 1) := by decide +kernel
theorem dX12_mark_23 : decode cX12_mark 23 = .ok (.if_icmp .ne 9, 3) := by decide +kernel
theorem dX12_mark_26 : decode cX12_mark 26 = .ok (.aload_n 0, 1) := by decide +kernel
theorem dX12_mark_27 : decode cX12_mark 27 = .ok (.iconst 3, 1) := by decide +kernel
theorem dX12_mark_28 : decode cX12_mark 28 = .ok (.invokevirtual 77, 3) := by decide +kernel
theorem dX12_mark_31 : decode cX12_mark 31 = .ok (.ireturn, 1) := by decide +kernel
theorem dX12_mark_32 : decode cX12_mark 32 = .ok (.iconst 0, 1) := by decide +kernel
theorem dX12_mark_33 : decode cX12_mark 33 = .ok (.istore_n 1, 1) := by decide +kernel
theorem dX12_mark_34 : decode cX12_mark 34 = .ok (.iload_n 1, 1) := by decide +kernel
theorem dX12_mark_35 : decode cX12_mark 35 = .ok (.bipush 51, 2) := by decide +kernel
theorem dX12_mark_37 : decode cX12_mark 37 = .ok (.if_icmp .ge 29, 3) := by decide +kernel
theorem dX12_mark_40 : decode cX12_mark 40 = .ok (.aload_n 0, 1) := by decide +kernel
theorem dX12_mark_41 : decode cX12_mark 41 = .ok (.getfield 30, 3) := by decide +kernel
theorem dX12_mark_44 : decode cX12_mark 44 = .ok (.bipush 51, 2) := by decide +kernel
theorem dX12_mark_46 : decode cX12_mark 46 = .ok (.aload_n 0, 1) := by decide +kernel
theorem dX12_mark_47 : decode cX12_mark 47 = .ok (.getfield 363, 3) := by decide +kernel
theorem dX12_mark_50 : decode cX12_mark 50 = .ok (.imul, 1) := by decide +kernel
theorem dX12_mark_51 : decode cX12_mark 51 = .ok (.iload_n 1, 1) := by decide +kernel
theorem dX12_mark_52 : decode cX12_mark 52 = .ok (.iadd, 1) := by decide +kernel
theorem dX12_mark_53 : decode cX12_mark 53 = .ok (.aload_n 0, 1) := by decide +kernel
theorem dX12_mark_54 : decode cX12_mark 54 = .ok (.getfield 36, 3) := by decide +kernel
theorem dX12_mark_57 : decode cX12_mark 57 = .ok (.iload_n 1, 1) := by decide +kernel
theorem dX12_mark_58 : decode cX12_mark 58 = .ok (.iaload, 1) := by decide +kernel
theorem dX12_mark_59 : decode cX12_mark 59 = .ok (.iastore, 1) := by decide +kernel
theorem dX12_mark_60 : decode cX12_mark 60 = .ok (.iinc 1 1, 3) := by decide +kernel
theorem dX12_mark_63 : decode cX12_mark 63 = .ok (.goto (-29), 3) := by decide +kernel
theorem dX12_mark_66 : decode cX12_mark 66 = .ok (.aload_n 0, 1) := by decide +kernel
theorem dX12_mark_67 : decode cX12_mark 67 = .ok (.dup, 1) := by decide +kernel
theorem dX12_mark_68 : decode cX12_mark 68 = .ok (.getfield 363, 3) := by decide +kernel
theorem dX12_mark_71 : decode cX12_mark 71 = .ok (.iconst 1, 1) := by decide +kernel
theorem dX12_mark_72 : decode cX12_mark 72 = .ok (.iadd, 1) := by decide +kernel
theorem dX12_mark_73 : decode cX12_mark 73 = .ok (.putfield 363, 3) := by decide +kernel
theorem dX12_mark_76 : decode cX12_mark 76 = .ok (.aload_n 0, 1) := by decide +kernel
theorem dX12_mark_77 : decode cX12_mark 77 = .ok (.aload_n 0, 1) := by decide +kernel
theorem dX12_mark_78 : decode cX12_mark 78 = .ok (.getfield 363, 3) := by decide +kernel
theorem dX12_mark_81 : decode cX12_mark 81 = .ok (.iconst 1, 1) := by decide +kernel
theorem dX12_mark_82 : decode cX12_mark 82 = .ok (.isub, 1) := by decide +kernel
theorem dX12_mark_83 : decode cX12_mark 83 = .ok (.invokevirtual 81, 3) := by decide +kernel
theorem dX12_mark_86 : decode cX12_mark 86 = .ok (.ireturn, 1) := by decide +kernel
theorem dX12_mark_12 : decode cX12_mark 12 = .ok (.aload_n 0, 1) := by decide +kernel
theorem dX12_mark_13 : decode cX12_mark 13 = .ok (.iconst 1, 1) := by decide +kernel
theorem dX12_mark_14 : decode cX12_mark 14 = .ok (.invokevirtual 77, 3) := by decide +kernel
theorem dX12_mark_17 : decode cX12_mark 17 = .ok (.ireturn, 1) := by decide +kernel
def wX12_isSleeper (E : EN) (h h_inn h_tape h_far h_from h_real h_other h_kept h_set h_w h_book h_noteSort h_whose h_what h_noteIs h_fitting h_dawn h_likes h_walked h_came h_inn_creak h_inn_doorA h_inn_doorB h_inn_how h_inn_lies h_inn_isCold h_inn_falls h_inn_isFull h_inn_isTold h_inn_act h_inn_what h_inn_then h_inn_met h_inn_bed h_inn_dream h_inn_listens h_inn_name h_inn_nameSort h_inn_nameNumber : Nat) (v_thrown : Int32) (v_trouble : Int32) (v_where : Int32) (v_read : Option Nat) (v_taped : Int32) (v_size : Int32) (v_at : Int32) (v_sort : Int32) (v_place : Int32) (v_sign : Int32) (v_number : Int32) (v_fault : Int32) (v_wrongAt : Int32) (v_word : Int64) (v_marks : Int32) (v_notes : Int32) (v_inn_minutes : Int32) (v_inn_rooms : Int32) (v_inn_doors : Int32) (v_inn_things : Int32) (v_inn_dreams : Int32) (v_inn_sleepers : Int32) (v_inn_listeners : Int32) (v_inn_names : Int32) : va_W := [(h, .inr (11, [.int v_thrown, .int v_trouble, .int v_where, .ref h_inn, va_rf v_read, .ref h_tape, .int v_taped, .int v_size, .int v_at, .int v_sort, .int v_place, .int v_sign, .int v_number, .int v_fault, .int v_wrongAt, .long v_word, .ref h_far, .ref h_from, .ref h_real, .ref h_other, .ref h_kept, .ref h_set, .ref h_w, .int v_marks, .int v_notes, .ref h_book, .ref h_noteSort, .ref h_whose, .ref h_what, .ref h_noteIs, .ref h_fitting, .ref h_dawn, .ref h_likes, .ref h_walked, .ref h_came])), (h_inn, .inr (10, [.int v_inn_minutes, .int v_inn_rooms, .int v_inn_doors, .int v_inn_things, .int v_inn_dreams, .int v_inn_sleepers, .int v_inn_listeners, .int v_inn_names, .ref h_inn_creak, .ref h_inn_doorA, .ref h_inn_doorB, .ref h_inn_how, .ref h_inn_lies, .ref h_inn_isCold, .ref h_inn_falls, .ref h_inn_isFull, .ref h_inn_isTold, .ref h_inn_act, .ref h_inn_what, .ref h_inn_then, .ref h_inn_met, .ref h_inn_bed, .ref h_inn_dream, .ref h_inn_listens, .ref h_inn_name, .ref h_inn_nameSort, .ref h_inn_nameNumber]))]
def fX12_isSleeper (N : Nat) (p0 : Int32) (v_inn_sleepers : Int32) : Option Int32 := jn (un0 (some 0)) (fun j26 => if p0 < 0 then (j26 ()) else (if v_inn_sleepers ≤ p0 then (j26 ()) else (some 1)))
set_option maxHeartbeats 4000000 in
set_option maxRecDepth 100000 in
theorem ctX12_isSleeper (l : Launch) (E : EN) (h h_inn h_tape h_far h_from h_real h_other h_kept h_set h_w h_book h_noteSort h_whose h_what h_noteIs h_fitting h_dawn h_likes h_walked h_came h_inn_creak h_inn_doorA h_inn_doorB h_inn_how h_inn_lies h_inn_isCold h_inn_falls h_inn_isFull h_inn_isTold h_inn_act h_inn_what h_inn_then h_inn_met h_inn_bed h_inn_dream h_inn_listens h_inn_name h_inn_nameSort h_inn_nameNumber : Nat) (v_thrown : Int32) (v_trouble : Int32) (v_where : Int32) (v_read : Option Nat) (v_taped : Int32) (v_size : Int32) (v_at : Int32) (v_sort : Int32) (v_place : Int32) (v_sign : Int32) (v_number : Int32) (v_fault : Int32) (v_wrongAt : Int32) (v_word : Int64) (v_marks : Int32) (v_notes : Int32) (v_inn_minutes : Int32) (v_inn_rooms : Int32) (v_inn_doors : Int32) (v_inn_things : Int32) (v_inn_dreams : Int32) (v_inn_sleepers : Int32) (v_inn_listeners : Int32) (v_inn_names : Int32) (N : Nat) (p0 : Int32) (z : Int32) (hf : fX12_isSleeper N p0 v_inn_sleepers = some z) : CTi l E yX12_isSleeper cX12_isSleeper 2 .boolean 0 0 [.ref h, .int p0] (wX12_isSleeper E h h_inn h_tape h_far h_from h_real h_other h_kept h_set h_w h_book h_noteSort h_whose h_what h_noteIs h_fitting h_dawn h_likes h_walked h_came h_inn_creak h_inn_doorA h_inn_doorB h_inn_how h_inn_lies h_inn_isCold h_inn_falls h_inn_isFull h_inn_isTold h_inn_act h_inn_what h_inn_then h_inn_met h_inn_bed h_inn_dream h_inn_listens h_inn_name h_inn_nameSort h_inn_nameNumber v_thrown v_trouble v_where v_read v_taped v_size v_at v_sort v_place v_sign v_number v_fault v_wrongAt v_word v_marks v_notes v_inn_minutes v_inn_rooms v_inn_doors v_inn_things v_inn_dreams v_inn_sleepers v_inn_listeners v_inn_names) (z) (wX12_isSleeper E h h_inn h_tape h_far h_from h_real h_other h_kept h_set h_w h_book h_noteSort h_whose h_what h_noteIs h_fitting h_dawn h_likes h_walked h_came h_inn_creak h_inn_doorA h_inn_doorB h_inn_how h_inn_lies h_inn_isCold h_inn_falls h_inn_isFull h_inn_isTold h_inn_act h_inn_what h_inn_then h_inn_met h_inn_bed h_inn_dream h_inn_listens h_inn_name h_inn_nameSort h_inn_nameNumber v_thrown v_trouble v_where v_read v_taped v_size v_at v_sort v_place v_sign v_number v_fault v_wrongAt v_word v_marks v_notes v_inn_minutes v_inn_rooms v_inn_doors v_inn_things v_inn_dreams v_inn_sleepers v_inn_listeners v_inn_names) := by
  intro sz
  refine ct_body (by decide) (Nat.le_of_ble_eq_true rfl) ?_
  intro p e s m args below meth c A ls hAe C hr hin hP hD hS hl
  have C : CX p s m args meth c cX12_isSleeper RX12 2 E A := C
  have hl : lv_has ls 2 [(0, .ref h), (1, .int p0)] := hl
  have hx := C.1
  have hb := C.2.1
  rw [hAe]
  clear hAe
  obtain ⟨Q, hQ⟩ : ∃ Q, Q = MQ below (Qi E A (z) (wX12_isSleeper E h h_inn h_tape h_far h_from h_real h_other h_kept h_set h_w h_book h_noteSort h_whose h_what h_noteIs h_fitting h_dawn h_likes h_walked h_came h_inn_creak h_inn_doorA h_inn_doorB h_inn_how h_inn_lies h_inn_isCold h_inn_falls h_inn_isFull h_inn_isTold h_inn_act h_inn_what h_inn_then h_inn_met h_inn_bed h_inn_dream h_inn_listens h_inn_name h_inn_nameSort h_inn_nameNumber v_thrown v_trouble v_where v_read v_taped v_size v_at v_sort v_place v_sign v_number v_fault v_wrongAt v_word v_marks v_notes v_inn_minutes v_inn_rooms v_inn_doors v_inn_things v_inn_dreams v_inn_sleepers v_inn_listeners v_inn_names)) args s 0 0 A := ⟨_, rfl⟩
  rw [← hQ]
  unfold fX12_isSleeper at hf
  refine lv_aload_n (pc := 0) hx hb dX12_isSleeper_0 rfl (lv_at hl 0 rfl) ?_
  refine r_get (pc := 1) C hP 0 rfl fl_X12_358 rfl dX12_isSleeper_1 ?_
  refine jnK hf (fun j26 ej26 hf => ?_)
  have hj26 : j26 () = some z → AT p l e (rmOf 0 0) s m args below meth c E A Q 0 0 2 [] (wX12_isSleeper E h h_inn h_tape h_far h_from h_real h_other h_kept h_set h_w h_book h_noteSort h_whose h_what h_noteIs h_fitting h_dawn h_likes h_walked h_came h_inn_creak h_inn_doorA h_inn_doorB h_inn_how h_inn_lies h_inn_isCold h_inn_falls h_inn_isFull h_inn_isTold h_inn_act h_inn_what h_inn_then h_inn_met h_inn_bed h_inn_dream h_inn_listens h_inn_name h_inn_nameSort h_inn_nameNumber v_thrown v_trouble v_where v_read v_taped v_size v_at v_sort v_place v_sign v_number v_fault v_wrongAt v_word v_marks v_notes v_inn_minutes v_inn_rooms v_inn_doors v_inn_things v_inn_dreams v_inn_sleepers v_inn_listeners v_inn_names) 26 [] := by
    intro  hf H locs ls hl hP hD hS
    rw [ej26] at hf
    replace hf := un0_s hf
    refine lv_iconst (pc := 26) (v := 0) hx hb dX12_isSleeper_26 (by decide) ?_
    cases hf
    rw [hQ]
    exact r_zret C hr hP hD hS (Or.inl rfl) rfl dX12_isSleeper_27
  clear ej26
  refine lv_ifnull (pc := 4) hx hb dX12_isSleeper_4 ?_
  refine lv_iload_n (pc := 7) hx hb dX12_isSleeper_7 rfl (lv_at hl 1 rfl) ?_
  refine lv_if_lt (pc := 8) (tgt := 26) hx hb dX12_isSleeper_8 (by decide) (fun c_8 => ?_) (fun c_8 => ?_)
  · replace hf := it_t c_8 hf
    exact hj26  hf _ _ _ (lv_sub hl [] rfl) hP hD hS
  · replace hf := it_f c_8 hf
    refine lv_iload_n (pc := 11) hx hb dX12_isSleeper_11 rfl (lv_at hl 1 rfl) ?_
    refine lv_aload_n (pc := 12) hx hb dX12_isSleeper_12 rfl (lv_at hl 0 rfl) ?_
    refine r_get (pc := 13) C hP 0 rfl fl_X12_358 rfl dX12_isSleeper_13 ?_
    refine r_get (pc := 16) C hP 1 rfl fl_X12_247 rfl dX12_isSleeper_16 ?_
    refine lv_icmp_ge (pc := 19) (tgt := 26) hx hb dX12_isSleeper_19 (by decide) (fun c_19 => ?_) (fun c_19 => ?_)
    · replace hf := it_t c_19 hf
      exact hj26  hf _ _ _ (lv_sub hl [] rfl) hP hD hS
    · replace hf := it_f c_19 hf
      refine lv_iconst (pc := 22) (v := 1) hx hb dX12_isSleeper_22 (by decide) ?_
      refine lv_goto (pc := 23) (tgt := 27) hx hb dX12_isSleeper_23 (by decide) ?_
      cases hf
      rw [hQ]
      exact r_zret C hr hP hD hS (Or.inr rfl) rfl dX12_isSleeper_27
def wX12_isSleeper0 (E : EN) (h h_tape h_far h_from h_real h_other h_kept h_set h_w h_book h_noteSort h_whose h_what h_noteIs h_fitting h_dawn h_likes h_walked h_came : Nat) (v_thrown : Int32) (v_trouble : Int32) (v_where : Int32) (v_read : Option Nat) (v_taped : Int32) (v_size : Int32) (v_at : Int32) (v_sort : Int32) (v_place : Int32) (v_sign : Int32) (v_number : Int32) (v_fault : Int32) (v_wrongAt : Int32) (v_word : Int64) (v_marks : Int32) (v_notes : Int32) : va_W := [(h, .inr (11, [.int v_thrown, .int v_trouble, .int v_where, .null, va_rf v_read, .ref h_tape, .int v_taped, .int v_size, .int v_at, .int v_sort, .int v_place, .int v_sign, .int v_number, .int v_fault, .int v_wrongAt, .long v_word, .ref h_far, .ref h_from, .ref h_real, .ref h_other, .ref h_kept, .ref h_set, .ref h_w, .int v_marks, .int v_notes, .ref h_book, .ref h_noteSort, .ref h_whose, .ref h_what, .ref h_noteIs, .ref h_fitting, .ref h_dawn, .ref h_likes, .ref h_walked, .ref h_came]))]
def fX12_isSleeper0 (N : Nat) : Option Int32 := jn (un0 (some 0)) (fun j26 => j26 ())
set_option maxHeartbeats 4000000 in
set_option maxRecDepth 100000 in
theorem ctX12_isSleeper0 (l : Launch) (E : EN) (h h_tape h_far h_from h_real h_other h_kept h_set h_w h_book h_noteSort h_whose h_what h_noteIs h_fitting h_dawn h_likes h_walked h_came : Nat) (v_thrown : Int32) (v_trouble : Int32) (v_where : Int32) (v_read : Option Nat) (v_taped : Int32) (v_size : Int32) (v_at : Int32) (v_sort : Int32) (v_place : Int32) (v_sign : Int32) (v_number : Int32) (v_fault : Int32) (v_wrongAt : Int32) (v_word : Int64) (v_marks : Int32) (v_notes : Int32) (N : Nat) (p0 : Int32) (z : Int32) (hf : fX12_isSleeper0 N  = some z) : CTi l E yX12_isSleeper cX12_isSleeper 2 .boolean 0 0 [.ref h, .int p0] (wX12_isSleeper0 E h h_tape h_far h_from h_real h_other h_kept h_set h_w h_book h_noteSort h_whose h_what h_noteIs h_fitting h_dawn h_likes h_walked h_came v_thrown v_trouble v_where v_read v_taped v_size v_at v_sort v_place v_sign v_number v_fault v_wrongAt v_word v_marks v_notes) (z) (wX12_isSleeper0 E h h_tape h_far h_from h_real h_other h_kept h_set h_w h_book h_noteSort h_whose h_what h_noteIs h_fitting h_dawn h_likes h_walked h_came v_thrown v_trouble v_where v_read v_taped v_size v_at v_sort v_place v_sign v_number v_fault v_wrongAt v_word v_marks v_notes) := by
  intro sz
  refine ct_body (by decide) (Nat.le_of_ble_eq_true rfl) ?_
  intro p e s m args below meth c A ls hAe C hr hin hP hD hS hl
  have C : CX p s m args meth c cX12_isSleeper RX12 2 E A := C
  have hl : lv_has ls 2 [(0, .ref h), (1, .int p0)] := hl
  have hx := C.1
  have hb := C.2.1
  rw [hAe]
  clear hAe
  obtain ⟨Q, hQ⟩ : ∃ Q, Q = MQ below (Qi E A (z) (wX12_isSleeper0 E h h_tape h_far h_from h_real h_other h_kept h_set h_w h_book h_noteSort h_whose h_what h_noteIs h_fitting h_dawn h_likes h_walked h_came v_thrown v_trouble v_where v_read v_taped v_size v_at v_sort v_place v_sign v_number v_fault v_wrongAt v_word v_marks v_notes)) args s 0 0 A := ⟨_, rfl⟩
  rw [← hQ]
  unfold fX12_isSleeper0 at hf
  refine lv_aload_n (pc := 0) hx hb dX12_isSleeper_0 rfl (lv_at hl 0 rfl) ?_
  refine r_get (pc := 1) C hP 0 rfl fl_X12_358 rfl dX12_isSleeper_1 ?_
  refine jnK hf (fun j26 ej26 hf => ?_)
  have hj26 : j26 () = some z → AT p l e (rmOf 0 0) s m args below meth c E A Q 0 0 2 [] (wX12_isSleeper0 E h h_tape h_far h_from h_real h_other h_kept h_set h_w h_book h_noteSort h_whose h_what h_noteIs h_fitting h_dawn h_likes h_walked h_came v_thrown v_trouble v_where v_read v_taped v_size v_at v_sort v_place v_sign v_number v_fault v_wrongAt v_word v_marks v_notes) 26 [] := by
    intro  hf H locs ls hl hP hD hS
    rw [ej26] at hf
    replace hf := un0_s hf
    refine lv_iconst (pc := 26) (v := 0) hx hb dX12_isSleeper_26 (by decide) ?_
    cases hf
    rw [hQ]
    exact r_zret C hr hP hD hS (Or.inl rfl) rfl dX12_isSleeper_27
  clear ej26
  refine lv_ifnullN (pc := 4) (tgt := 26) hx hb dX12_isSleeper_4 (by decide) ?_
  exact hj26  hf _ _ _ (lv_sub hl [] rfl) hP hD hS
def wX12_dreams (E : EN) (h h_inn h_tape h_far h_from h_real h_other h_kept h_set h_w h_book h_noteSort h_whose h_what h_noteIs h_fitting h_dawn h_likes h_walked h_came h_inn_creak h_inn_doorA h_inn_doorB h_inn_how h_inn_lies h_inn_isCold h_inn_falls h_inn_isFull h_inn_isTold h_inn_act h_inn_what h_inn_then h_inn_met h_inn_bed h_inn_dream h_inn_listens h_inn_name h_inn_nameSort h_inn_nameNumber : Nat) (v_thrown : Int32) (v_trouble : Int32) (v_where : Int32) (v_read : Option Nat) (v_taped : Int32) (v_size : Int32) (v_at : Int32) (v_sort : Int32) (v_place : Int32) (v_sign : Int32) (v_number : Int32) (v_fault : Int32) (v_wrongAt : Int32) (v_word : Int64) (v_marks : Int32) (v_notes : Int32) (v_inn_minutes : Int32) (v_inn_rooms : Int32) (v_inn_doors : Int32) (v_inn_things : Int32) (v_inn_dreams : Int32) (v_inn_sleepers : Int32) (v_inn_listeners : Int32) (v_inn_names : Int32) (v_set : Nat → Int32) : va_W := [(h, .inr (11, [.int v_thrown, .int v_trouble, .int v_where, .ref h_inn, va_rf v_read, .ref h_tape, .int v_taped, .int v_size, .int v_at, .int v_sort, .int v_place, .int v_sign, .int v_number, .int v_fault, .int v_wrongAt, .long v_word, .ref h_far, .ref h_from, .ref h_real, .ref h_other, .ref h_kept, .ref h_set, .ref h_w, .int v_marks, .int v_notes, .ref h_book, .ref h_noteSort, .ref h_whose, .ref h_what, .ref h_noteIs, .ref h_fitting, .ref h_dawn, .ref h_likes, .ref h_walked, .ref h_came])), (h_inn, .inr (10, [.int v_inn_minutes, .int v_inn_rooms, .int v_inn_doors, .int v_inn_things, .int v_inn_dreams, .int v_inn_sleepers, .int v_inn_listeners, .int v_inn_names, .ref h_inn_creak, .ref h_inn_doorA, .ref h_inn_doorB, .ref h_inn_how, .ref h_inn_lies, .ref h_inn_isCold, .ref h_inn_falls, .ref h_inn_isFull, .ref h_inn_isTold, .ref h_inn_act, .ref h_inn_what, .ref h_inn_then, .ref h_inn_met, .ref h_inn_bed, .ref h_inn_dream, .ref h_inn_listens, .ref h_inn_name, .ref h_inn_nameSort, .ref h_inn_nameNumber])), (h_set, aI E 3 v_set)]
def fX12_dreams (N : Nat) (p0 : Int32) (p1 : Int32) (v_inn_dreams : Int32) (v_inn_sleepers : Int32) (v_set : Nat → Int32) : Option (Int32 × Int32 × Int32 × Int32 × (Nat → Int32)) := (fX12_isSleeper N p0 v_inn_sleepers).bind (un1 fun (r_7 : Int32) => if r_7 = 0 then ((fX12_denied N 1).bind (un3 fun (r_23 : Int32) (v_trouble_23 : Int32) (v_where_23 : Int32) => zg r_23 (some (r_23, 0, v_trouble_23, v_where_23, v_set)))) else ((fX12_isDream N p1 v_inn_dreams).bind (un1 fun (r_15 : Int32) => if r_15 = 0 then ((fX12_denied N 1).bind (un3 fun (r_23 : Int32) (v_trouble_23 : Int32) (v_where_23 : Int32) => zg r_23 (some (r_23, 0, v_trouble_23, v_where_23, v_set)))) else (gd p0 3 ((fX12_granted N).bind (un3 fun (r_35 : Int32) (v_trouble_35 : Int32) (v_where_35 : Int32) => zg r_35 (some (r_35, 0, v_trouble_35, v_where_35, upd v_set p0.toNatClampNeg p1))))))))
set_option maxHeartbeats 4000000 in
set_option maxRecDepth 100000 in
theorem ctX12_dreams (l : Launch) (E : EN) (h h_inn h_tape h_far h_from h_real h_other h_kept h_set h_w h_book h_noteSort h_whose h_what h_noteIs h_fitting h_dawn h_likes h_walked h_came h_inn_creak h_inn_doorA h_inn_doorB h_inn_how h_inn_lies h_inn_isCold h_inn_falls h_inn_isFull h_inn_isTold h_inn_act h_inn_what h_inn_then h_inn_met h_inn_bed h_inn_dream h_inn_listens h_inn_name h_inn_nameSort h_inn_nameNumber : Nat) (v_thrown : Int32) (v_trouble : Int32) (v_where : Int32) (v_read : Option Nat) (v_taped : Int32) (v_size : Int32) (v_at : Int32) (v_sort : Int32) (v_place : Int32) (v_sign : Int32) (v_number : Int32) (v_fault : Int32) (v_wrongAt : Int32) (v_word : Int64) (v_marks : Int32) (v_notes : Int32) (v_inn_minutes : Int32) (v_inn_rooms : Int32) (v_inn_doors : Int32) (v_inn_things : Int32) (v_inn_dreams : Int32) (v_inn_sleepers : Int32) (v_inn_listeners : Int32) (v_inn_names : Int32) (v_set : Nat → Int32) (N : Nat) (p0 : Int32) (p1 : Int32) (z : Int32 × Int32 × Int32 × Int32 × (Nat → Int32)) (hf : fX12_dreams N p0 p1 v_inn_dreams v_inn_sleepers v_set = some z) : CTi l E yX12_dreams cX12_dreams 3 .boolean 2 42 [.ref h, .int p0, .int p1] (wX12_dreams E h h_inn h_tape h_far h_from h_real h_other h_kept h_set h_w h_book h_noteSort h_whose h_what h_noteIs h_fitting h_dawn h_likes h_walked h_came h_inn_creak h_inn_doorA h_inn_doorB h_inn_how h_inn_lies h_inn_isCold h_inn_falls h_inn_isFull h_inn_isTold h_inn_act h_inn_what h_inn_then h_inn_met h_inn_bed h_inn_dream h_inn_listens h_inn_name h_inn_nameSort h_inn_nameNumber v_thrown v_trouble v_where v_read v_taped v_size v_at v_sort v_place v_sign v_number v_fault v_wrongAt v_word v_marks v_notes v_inn_minutes v_inn_rooms v_inn_doors v_inn_things v_inn_dreams v_inn_sleepers v_inn_listeners v_inn_names v_set) (z.1) (wX12_dreams E h h_inn h_tape h_far h_from h_real h_other h_kept h_set h_w h_book h_noteSort h_whose h_what h_noteIs h_fitting h_dawn h_likes h_walked h_came h_inn_creak h_inn_doorA h_inn_doorB h_inn_how h_inn_lies h_inn_isCold h_inn_falls h_inn_isFull h_inn_isTold h_inn_act h_inn_what h_inn_then h_inn_met h_inn_bed h_inn_dream h_inn_listens h_inn_name h_inn_nameSort h_inn_nameNumber z.2.1 z.2.2.1 z.2.2.2.1 v_read v_taped v_size v_at v_sort v_place v_sign v_number v_fault v_wrongAt v_word v_marks v_notes v_inn_minutes v_inn_rooms v_inn_doors v_inn_things v_inn_dreams v_inn_sleepers v_inn_listeners v_inn_names z.2.2.2.2) := by
  intro sz
  refine ct_body (by decide) (Nat.le_of_ble_eq_true rfl) ?_
  intro p e s m args below meth c A ls hAe C hr hin hP hD hS hl
  have C : CX p s m args meth c cX12_dreams RX12 3 E A := C
  have hl : lv_has ls 3 [(0, .ref h), (1, .int p0), (2, .int p1)] := hl
  have hx := C.1
  have hb := C.2.1
  rw [hAe]
  clear hAe
  obtain ⟨Q, hQ⟩ : ∃ Q, Q = MQ below (Qi E A (z.1) (wX12_dreams E h h_inn h_tape h_far h_from h_real h_other h_kept h_set h_w h_book h_noteSort h_whose h_what h_noteIs h_fitting h_dawn h_likes h_walked h_came h_inn_creak h_inn_doorA h_inn_doorB h_inn_how h_inn_lies h_inn_isCold h_inn_falls h_inn_isFull h_inn_isTold h_inn_act h_inn_what h_inn_then h_inn_met h_inn_bed h_inn_dream h_inn_listens h_inn_name h_inn_nameSort h_inn_nameNumber z.2.1 z.2.2.1 z.2.2.2.1 v_read v_taped v_size v_at v_sort v_place v_sign v_number v_fault v_wrongAt v_word v_marks v_notes v_inn_minutes v_inn_rooms v_inn_doors v_inn_things v_inn_dreams v_inn_sleepers v_inn_listeners v_inn_names z.2.2.2.2)) args s 0 0 A := ⟨_, rfl⟩
  rw [← hQ]
  unfold fX12_dreams at hf
  refine lv_aload_n (pc := 0) hx hb dX12_dreams_0 rfl (lv_at hl 0 rfl) ?_
  refine lv_iconst (pc := 1) (v := 0) hx hb dX12_dreams_1 (by decide) ?_
  refine r_put (pc := 2) (ws' := (wX12_dreams E h h_inn h_tape h_far h_from h_real h_other h_kept h_set h_w h_book h_noteSort h_whose h_what h_noteIs h_fitting h_dawn h_likes h_walked h_came h_inn_creak h_inn_doorA h_inn_doorB h_inn_how h_inn_lies h_inn_isCold h_inn_falls h_inn_isFull h_inn_isTold h_inn_act h_inn_what h_inn_then h_inn_met h_inn_bed h_inn_dream h_inn_listens h_inn_name h_inn_nameSort h_inn_nameNumber 0 v_trouble v_where v_read v_taped v_size v_at v_sort v_place v_sign v_number v_fault v_wrongAt v_word v_marks v_notes v_inn_minutes v_inn_rooms v_inn_doors v_inn_things v_inn_dreams v_inn_sleepers v_inn_listeners v_inn_names v_set)) C hP hD hS 0 rfl fl_X12_71 rfl rfl (Nat.le_of_ble_eq_true rfl) rfl dX12_dreams_2 ?_
  clear hP hD hS; intro H locs hP hD hS
  refine lv_aload_n (pc := 5) hx hb dX12_dreams_5 rfl (lv_at hl 0 rfl) ?_
  refine lv_iload_n (pc := 6) hx hb dX12_dreams_6 rfl (lv_at hl 1 rfl) ?_
  obtain ⟨r_7, hc_7, hf⟩ := bd1 hf
  refine r_dalVi (pc := 7) (ws' := (wX12_dreams E h h_inn h_tape h_far h_from h_real h_other h_kept h_set h_w h_book h_noteSort h_whose h_what h_noteIs h_fitting h_dawn h_likes h_walked h_came h_inn_creak h_inn_doorA h_inn_doorB h_inn_how h_inn_lies h_inn_isCold h_inn_falls h_inn_isFull h_inn_isTold h_inn_act h_inn_what h_inn_then h_inn_met h_inn_bed h_inn_dream h_inn_listens h_inn_name h_inn_nameSort h_inn_nameNumber 0 v_trouble v_where v_read v_taped v_size v_at v_sort v_place v_sign v_number v_fault v_wrongAt v_word v_marks v_notes v_inn_minutes v_inn_rooms v_inn_doors v_inn_things v_inn_dreams v_inn_sleepers v_inn_listeners v_inn_names v_set)) (As := [.int p0]) (rest := []) C (ctX12_isSleeper l E h h_inn h_tape h_far h_from h_real h_other h_kept h_set h_w h_book h_noteSort h_whose h_what h_noteIs h_fitting h_dawn h_likes h_walked h_came h_inn_creak h_inn_doorA h_inn_doorB h_inn_how h_inn_lies h_inn_isCold h_inn_falls h_inn_isFull h_inn_isTold h_inn_act h_inn_what h_inn_then h_inn_met h_inn_bed h_inn_dream h_inn_listens h_inn_name h_inn_nameSort h_inn_nameNumber 0 v_trouble v_where v_read v_taped v_size v_at v_sort v_place v_sign v_number v_fault v_wrongAt v_word v_marks v_notes v_inn_minutes v_inn_rooms v_inn_doors v_inn_things v_inn_dreams v_inn_sleepers v_inn_listeners v_inn_names N p0 r_7 hc_7) ml_X12_421 ⟨Nat.le_of_ble_eq_true rfl, Nat.le_of_ble_eq_true rfl⟩ hP hD hS 0 rfl rfl rfl [0, 1] [3, 4, 2] 3 rfl rfl rfl rfl rfl rfl rfl hl.1 rfl (Nat.le_of_ble_eq_true rfl) ⟨Nat.zero_le _, Nat.zero_le _⟩ dX12_dreams_7 ?_
  clear hP hD hS; intro H locs hP hD hS
  refine lv_if_eq (pc := 10) (tgt := 21) hx hb dX12_dreams_10 (by decide) (fun c_10 => ?_) (fun c_10 => ?_)
  · replace hf := it_t c_10 hf
    refine lv_aload_n (pc := 21) hx hb dX12_dreams_21 rfl (lv_at hl 0 rfl) ?_
    refine lv_iconst (pc := 22) (v := 1) hx hb dX12_dreams_22 (by decide) ?_
    obtain ⟨r_23, v_trouble_23, v_where_23, hc_23, hf⟩ := bd3 hf
    refine r_dalVi (pc := 23) (ws' := (wX12_dreams E h h_inn h_tape h_far h_from h_real h_other h_kept h_set h_w h_book h_noteSort h_whose h_what h_noteIs h_fitting h_dawn h_likes h_walked h_came h_inn_creak h_inn_doorA h_inn_doorB h_inn_how h_inn_lies h_inn_isCold h_inn_falls h_inn_isFull h_inn_isTold h_inn_act h_inn_what h_inn_then h_inn_met h_inn_bed h_inn_dream h_inn_listens h_inn_name h_inn_nameSort h_inn_nameNumber 0 v_trouble_23 v_where_23 v_read v_taped v_size v_at v_sort v_place v_sign v_number v_fault v_wrongAt v_word v_marks v_notes v_inn_minutes v_inn_rooms v_inn_doors v_inn_things v_inn_dreams v_inn_sleepers v_inn_listeners v_inn_names v_set)) (As := [.int 1]) (rest := []) C (ctX12_denied l E h h_tape h_far h_from h_real h_other h_kept h_set h_w h_book h_noteSort h_whose h_what h_noteIs h_fitting h_dawn h_likes h_walked h_came 0 v_trouble v_where (some h_inn) v_read v_taped v_size v_at v_sort v_place v_sign v_number v_fault v_wrongAt v_word v_marks v_notes N 1 (r_23, v_trouble_23, v_where_23) hc_23) ml_X12_415 ⟨Nat.le_of_ble_eq_true rfl, Nat.le_of_ble_eq_true rfl⟩ hP hD hS 0 rfl rfl rfl [0] [3, 1, 2] 3 rfl rfl rfl rfl rfl rfl rfl hl.1 rfl (Nat.le_of_ble_eq_true rfl) ⟨Nat.zero_le _, Nat.zero_le _⟩ dX12_dreams_23 ?_
    clear hP hD hS; intro H locs hP hD hS
    obtain ⟨hz_26, hf⟩ := zg_s hf
    cases hf
    rw [hQ]
    exact r_zret C hr hP hD hS hz_26 rfl dX12_dreams_26
  · replace hf := it_f c_10 hf
    refine lv_aload_n (pc := 13) hx hb dX12_dreams_13 rfl (lv_at hl 0 rfl) ?_
    refine lv_iload_n (pc := 14) hx hb dX12_dreams_14 rfl (lv_at hl 2 rfl) ?_
    obtain ⟨r_15, hc_15, hf⟩ := bd1 hf
    refine r_dalVi (pc := 15) (ws' := (wX12_dreams E h h_inn h_tape h_far h_from h_real h_other h_kept h_set h_w h_book h_noteSort h_whose h_what h_noteIs h_fitting h_dawn h_likes h_walked h_came h_inn_creak h_inn_doorA h_inn_doorB h_inn_how h_inn_lies h_inn_isCold h_inn_falls h_inn_isFull h_inn_isTold h_inn_act h_inn_what h_inn_then h_inn_met h_inn_bed h_inn_dream h_inn_listens h_inn_name h_inn_nameSort h_inn_nameNumber 0 v_trouble v_where v_read v_taped v_size v_at v_sort v_place v_sign v_number v_fault v_wrongAt v_word v_marks v_notes v_inn_minutes v_inn_rooms v_inn_doors v_inn_things v_inn_dreams v_inn_sleepers v_inn_listeners v_inn_names v_set)) (As := [.int p1]) (rest := []) C (ctX12_isDream l E h h_inn h_tape h_far h_from h_real h_other h_kept h_set h_w h_book h_noteSort h_whose h_what h_noteIs h_fitting h_dawn h_likes h_walked h_came h_inn_creak h_inn_doorA h_inn_doorB h_inn_how h_inn_lies h_inn_isCold h_inn_falls h_inn_isFull h_inn_isTold h_inn_act h_inn_what h_inn_then h_inn_met h_inn_bed h_inn_dream h_inn_listens h_inn_name h_inn_nameSort h_inn_nameNumber 0 v_trouble v_where v_read v_taped v_size v_at v_sort v_place v_sign v_number v_fault v_wrongAt v_word v_marks v_notes v_inn_minutes v_inn_rooms v_inn_doors v_inn_things v_inn_dreams v_inn_sleepers v_inn_listeners v_inn_names N p1 r_15 hc_15) ml_X12_382 ⟨Nat.le_of_ble_eq_true rfl, Nat.le_of_ble_eq_true rfl⟩ hP hD hS 0 rfl rfl rfl [0, 1] [3, 4, 2] 3 rfl rfl rfl rfl rfl rfl rfl hl.1 rfl (Nat.le_of_ble_eq_true rfl) ⟨Nat.zero_le _, Nat.zero_le _⟩ dX12_dreams_15 ?_
    clear hP hD hS; intro H locs hP hD hS
    refine lv_if_ne (pc := 18) (tgt := 27) hx hb dX12_dreams_18 (by decide) (fun c_18 => ?_) (fun c_18 => ?_)
    · replace hf := it_f c_18 hf
      refine lv_aload_n (pc := 27) hx hb dX12_dreams_27 rfl (lv_at hl 0 rfl) ?_
      refine r_get (pc := 28) C hP 0 rfl fl_X12_33 rfl dX12_dreams_28 ?_
      refine lv_iload_n (pc := 31) hx hb dX12_dreams_31 rfl (lv_at hl 1 rfl) ?_
      refine lv_iload_n (pc := 32) hx hb dX12_dreams_32 rfl (lv_at hl 2 rfl) ?_
      obtain ⟨hi_33, hf⟩ := gd_s hf
      refine r_iast (pc := 33) (ws' := (wX12_dreams E h h_inn h_tape h_far h_from h_real h_other h_kept h_set h_w h_book h_noteSort h_whose h_what h_noteIs h_fitting h_dawn h_likes h_walked h_came h_inn_creak h_inn_doorA h_inn_doorB h_inn_how h_inn_lies h_inn_isCold h_inn_falls h_inn_isFull h_inn_isTold h_inn_act h_inn_what h_inn_then h_inn_met h_inn_bed h_inn_dream h_inn_listens h_inn_name h_inn_nameSort h_inn_nameNumber 0 v_trouble v_where v_read v_taped v_size v_at v_sort v_place v_sign v_number v_fault v_wrongAt v_word v_marks v_notes v_inn_minutes v_inn_rooms v_inn_doors v_inn_things v_inn_dreams v_inn_sleepers v_inn_listeners v_inn_names (upd v_set p0.toNatClampNeg p1))) C hP hD hS 2 rfl hi_33 rfl dX12_dreams_33 ?_
      clear hP hD hS; intro H locs hP hD hS
      refine lv_aload_n (pc := 34) hx hb dX12_dreams_34 rfl (lv_at hl 0 rfl) ?_
      obtain ⟨r_35, v_trouble_35, v_where_35, hc_35, hf⟩ := bd3 hf
      refine r_dalVi (pc := 35) (ws' := (wX12_dreams E h h_inn h_tape h_far h_from h_real h_other h_kept h_set h_w h_book h_noteSort h_whose h_what h_noteIs h_fitting h_dawn h_likes h_walked h_came h_inn_creak h_inn_doorA h_inn_doorB h_inn_how h_inn_lies h_inn_isCold h_inn_falls h_inn_isFull h_inn_isTold h_inn_act h_inn_what h_inn_then h_inn_met h_inn_bed h_inn_dream h_inn_listens h_inn_name h_inn_nameSort h_inn_nameNumber 0 v_trouble_35 v_where_35 v_read v_taped v_size v_at v_sort v_place v_sign v_number v_fault v_wrongAt v_word v_marks v_notes v_inn_minutes v_inn_rooms v_inn_doors v_inn_things v_inn_dreams v_inn_sleepers v_inn_listeners v_inn_names (upd v_set p0.toNatClampNeg p1))) (As := []) (rest := []) C (ctX12_granted l E h h_tape h_far h_from h_real h_other h_kept h_set h_w h_book h_noteSort h_whose h_what h_noteIs h_fitting h_dawn h_likes h_walked h_came 0 v_trouble v_where (some h_inn) v_read v_taped v_size v_at v_sort v_place v_sign v_number v_fault v_wrongAt v_word v_marks v_notes N (r_35, v_trouble_35, v_where_35) hc_35) ml_X12_418 ⟨Nat.le_of_ble_eq_true rfl, Nat.le_of_ble_eq_true rfl⟩ hP hD hS 0 rfl rfl rfl [0] [3, 1, 2] 3 rfl rfl rfl rfl rfl rfl rfl hl.1 rfl (Nat.le_of_ble_eq_true rfl) ⟨Nat.zero_le _, Nat.zero_le _⟩ dX12_dreams_35 ?_
      clear hP hD hS; intro H locs hP hD hS
      obtain ⟨hz_38, hf⟩ := zg_s hf
      cases hf
      rw [hQ]
      exact r_zret C hr hP hD hS hz_38 rfl dX12_dreams_38
    · replace hf := it_t c_18 hf
      refine lv_aload_n (pc := 21) hx hb dX12_dreams_21 rfl (lv_at hl 0 rfl) ?_
      refine lv_iconst (pc := 22) (v := 1) hx hb dX12_dreams_22 (by decide) ?_
      obtain ⟨r_23, v_trouble_23, v_where_23, hc_23, hf⟩ := bd3 hf
      refine r_dalVi (pc := 23) (ws' := (wX12_dreams E h h_inn h_tape h_far h_from h_real h_other h_kept h_set h_w h_book h_noteSort h_whose h_what h_noteIs h_fitting h_dawn h_likes h_walked h_came h_inn_creak h_inn_doorA h_inn_doorB h_inn_how h_inn_lies h_inn_isCold h_inn_falls h_inn_isFull h_inn_isTold h_inn_act h_inn_what h_inn_then h_inn_met h_inn_bed h_inn_dream h_inn_listens h_inn_name h_inn_nameSort h_inn_nameNumber 0 v_trouble_23 v_where_23 v_read v_taped v_size v_at v_sort v_place v_sign v_number v_fault v_wrongAt v_word v_marks v_notes v_inn_minutes v_inn_rooms v_inn_doors v_inn_things v_inn_dreams v_inn_sleepers v_inn_listeners v_inn_names v_set)) (As := [.int 1]) (rest := []) C (ctX12_denied l E h h_tape h_far h_from h_real h_other h_kept h_set h_w h_book h_noteSort h_whose h_what h_noteIs h_fitting h_dawn h_likes h_walked h_came 0 v_trouble v_where (some h_inn) v_read v_taped v_size v_at v_sort v_place v_sign v_number v_fault v_wrongAt v_word v_marks v_notes N 1 (r_23, v_trouble_23, v_where_23) hc_23) ml_X12_415 ⟨Nat.le_of_ble_eq_true rfl, Nat.le_of_ble_eq_true rfl⟩ hP hD hS 0 rfl rfl rfl [0] [3, 1, 2] 3 rfl rfl rfl rfl rfl rfl rfl hl.1 rfl (Nat.le_of_ble_eq_true rfl) ⟨Nat.zero_le _, Nat.zero_le _⟩ dX12_dreams_23 ?_
      clear hP hD hS; intro H locs hP hD hS
      obtain ⟨hz_26, hf⟩ := zg_s hf
      cases hf
      rw [hQ]
      exact r_zret C hr hP hD hS hz_26 rfl dX12_dreams_26
def wX12_dreams0 (E : EN) (h h_tape h_far h_from h_real h_other h_kept h_set h_w h_book h_noteSort h_whose h_what h_noteIs h_fitting h_dawn h_likes h_walked h_came : Nat) (v_thrown : Int32) (v_trouble : Int32) (v_where : Int32) (v_read : Option Nat) (v_taped : Int32) (v_size : Int32) (v_at : Int32) (v_sort : Int32) (v_place : Int32) (v_sign : Int32) (v_number : Int32) (v_fault : Int32) (v_wrongAt : Int32) (v_word : Int64) (v_marks : Int32) (v_notes : Int32) (v_set : Nat → Int32) : va_W := [(h, .inr (11, [.int v_thrown, .int v_trouble, .int v_where, .null, va_rf v_read, .ref h_tape, .int v_taped, .int v_size, .int v_at, .int v_sort, .int v_place, .int v_sign, .int v_number, .int v_fault, .int v_wrongAt, .long v_word, .ref h_far, .ref h_from, .ref h_real, .ref h_other, .ref h_kept, .ref h_set, .ref h_w, .int v_marks, .int v_notes, .ref h_book, .ref h_noteSort, .ref h_whose, .ref h_what, .ref h_noteIs, .ref h_fitting, .ref h_dawn, .ref h_likes, .ref h_walked, .ref h_came])), (h_set, aI E 3 v_set)]
def fX12_dreams0 (N : Nat) (p0 : Int32) (p1 : Int32) (v_set : Nat → Int32) : Option (Int32 × Int32 × Int32 × Int32 × (Nat → Int32)) := (fX12_isSleeper0 N).bind (un1 fun (r_7 : Int32) => if r_7 = 0 then ((fX12_denied N 1).bind (un3 fun (r_23 : Int32) (v_trouble_23 : Int32) (v_where_23 : Int32) => zg r_23 (some (r_23, 0, v_trouble_23, v_where_23, v_set)))) else ((fX12_isDream0 N).bind (un1 fun (r_15 : Int32) => if r_15 = 0 then ((fX12_denied N 1).bind (un3 fun (r_23 : Int32) (v_trouble_23 : Int32) (v_where_23 : Int32) => zg r_23 (some (r_23, 0, v_trouble_23, v_where_23, v_set)))) else (gd p0 3 ((fX12_granted N).bind (un3 fun (r_35 : Int32) (v_trouble_35 : Int32) (v_where_35 : Int32) => zg r_35 (some (r_35, 0, v_trouble_35, v_where_35, upd v_set p0.toNatClampNeg p1))))))))
set_option maxHeartbeats 4000000 in
set_option maxRecDepth 100000 in
theorem ctX12_dreams0 (l : Launch) (E : EN) (h h_tape h_far h_from h_real h_other h_kept h_set h_w h_book h_noteSort h_whose h_what h_noteIs h_fitting h_dawn h_likes h_walked h_came : Nat) (v_thrown : Int32) (v_trouble : Int32) (v_where : Int32) (v_read : Option Nat) (v_taped : Int32) (v_size : Int32) (v_at : Int32) (v_sort : Int32) (v_place : Int32) (v_sign : Int32) (v_number : Int32) (v_fault : Int32) (v_wrongAt : Int32) (v_word : Int64) (v_marks : Int32) (v_notes : Int32) (v_set : Nat → Int32) (N : Nat) (p0 : Int32) (p1 : Int32) (z : Int32 × Int32 × Int32 × Int32 × (Nat → Int32)) (hf : fX12_dreams0 N p0 p1 v_set = some z) : CTi l E yX12_dreams cX12_dreams 3 .boolean 2 42 [.ref h, .int p0, .int p1] (wX12_dreams0 E h h_tape h_far h_from h_real h_other h_kept h_set h_w h_book h_noteSort h_whose h_what h_noteIs h_fitting h_dawn h_likes h_walked h_came v_thrown v_trouble v_where v_read v_taped v_size v_at v_sort v_place v_sign v_number v_fault v_wrongAt v_word v_marks v_notes v_set) (z.1) (wX12_dreams0 E h h_tape h_far h_from h_real h_other h_kept h_set h_w h_book h_noteSort h_whose h_what h_noteIs h_fitting h_dawn h_likes h_walked h_came z.2.1 z.2.2.1 z.2.2.2.1 v_read v_taped v_size v_at v_sort v_place v_sign v_number v_fault v_wrongAt v_word v_marks v_notes z.2.2.2.2) := by
  intro sz
  refine ct_body (by decide) (Nat.le_of_ble_eq_true rfl) ?_
  intro p e s m args below meth c A ls hAe C hr hin hP hD hS hl
  have C : CX p s m args meth c cX12_dreams RX12 3 E A := C
  have hl : lv_has ls 3 [(0, .ref h), (1, .int p0), (2, .int p1)] := hl
  have hx := C.1
  have hb := C.2.1
  rw [hAe]
  clear hAe
  obtain ⟨Q, hQ⟩ : ∃ Q, Q = MQ below (Qi E A (z.1) (wX12_dreams0 E h h_tape h_far h_from h_real h_other h_kept h_set h_w h_book h_noteSort h_whose h_what h_noteIs h_fitting h_dawn h_likes h_walked h_came z.2.1 z.2.2.1 z.2.2.2.1 v_read v_taped v_size v_at v_sort v_place v_sign v_number v_fault v_wrongAt v_word v_marks v_notes z.2.2.2.2)) args s 0 0 A := ⟨_, rfl⟩
  rw [← hQ]
  unfold fX12_dreams0 at hf
  refine lv_aload_n (pc := 0) hx hb dX12_dreams_0 rfl (lv_at hl 0 rfl) ?_
  refine lv_iconst (pc := 1) (v := 0) hx hb dX12_dreams_1 (by decide) ?_
  refine r_put (pc := 2) (ws' := (wX12_dreams0 E h h_tape h_far h_from h_real h_other h_kept h_set h_w h_book h_noteSort h_whose h_what h_noteIs h_fitting h_dawn h_likes h_walked h_came 0 v_trouble v_where v_read v_taped v_size v_at v_sort v_place v_sign v_number v_fault v_wrongAt v_word v_marks v_notes v_set)) C hP hD hS 0 rfl fl_X12_71 rfl rfl (Nat.le_of_ble_eq_true rfl) rfl dX12_dreams_2 ?_
  clear hP hD hS; intro H locs hP hD hS
  refine lv_aload_n (pc := 5) hx hb dX12_dreams_5 rfl (lv_at hl 0 rfl) ?_
  refine lv_iload_n (pc := 6) hx hb dX12_dreams_6 rfl (lv_at hl 1 rfl) ?_
  obtain ⟨r_7, hc_7, hf⟩ := bd1 hf
  refine r_dalVi (pc := 7) (ws' := (wX12_dreams0 E h h_tape h_far h_from h_real h_other h_kept h_set h_w h_book h_noteSort h_whose h_what h_noteIs h_fitting h_dawn h_likes h_walked h_came 0 v_trouble v_where v_read v_taped v_size v_at v_sort v_place v_sign v_number v_fault v_wrongAt v_word v_marks v_notes v_set)) (As := [.int p0]) (rest := []) C (ctX12_isSleeper0 l E h h_tape h_far h_from h_real h_other h_kept h_set h_w h_book h_noteSort h_whose h_what h_noteIs h_fitting h_dawn h_likes h_walked h_came 0 v_trouble v_where v_read v_taped v_size v_at v_sort v_place v_sign v_number v_fault v_wrongAt v_word v_marks v_notes N p0 r_7 hc_7) ml_X12_421 ⟨Nat.le_of_ble_eq_true rfl, Nat.le_of_ble_eq_true rfl⟩ hP hD hS 0 rfl rfl rfl [0] [2, 1] 2 rfl rfl rfl rfl rfl rfl rfl hl.1 rfl (Nat.le_of_ble_eq_true rfl) ⟨Nat.zero_le _, Nat.zero_le _⟩ dX12_dreams_7 ?_
  clear hP hD hS; intro H locs hP hD hS
  refine lv_if_eq (pc := 10) (tgt := 21) hx hb dX12_dreams_10 (by decide) (fun c_10 => ?_) (fun c_10 => ?_)
  · replace hf := it_t c_10 hf
    refine lv_aload_n (pc := 21) hx hb dX12_dreams_21 rfl (lv_at hl 0 rfl) ?_
    refine lv_iconst (pc := 22) (v := 1) hx hb dX12_dreams_22 (by decide) ?_
    obtain ⟨r_23, v_trouble_23, v_where_23, hc_23, hf⟩ := bd3 hf
    refine r_dalVi (pc := 23) (ws' := (wX12_dreams0 E h h_tape h_far h_from h_real h_other h_kept h_set h_w h_book h_noteSort h_whose h_what h_noteIs h_fitting h_dawn h_likes h_walked h_came 0 v_trouble_23 v_where_23 v_read v_taped v_size v_at v_sort v_place v_sign v_number v_fault v_wrongAt v_word v_marks v_notes v_set)) (As := [.int 1]) (rest := []) C (ctX12_denied l E h h_tape h_far h_from h_real h_other h_kept h_set h_w h_book h_noteSort h_whose h_what h_noteIs h_fitting h_dawn h_likes h_walked h_came 0 v_trouble v_where none v_read v_taped v_size v_at v_sort v_place v_sign v_number v_fault v_wrongAt v_word v_marks v_notes N 1 (r_23, v_trouble_23, v_where_23) hc_23) ml_X12_415 ⟨Nat.le_of_ble_eq_true rfl, Nat.le_of_ble_eq_true rfl⟩ hP hD hS 0 rfl rfl rfl [0] [2, 1] 2 rfl rfl rfl rfl rfl rfl rfl hl.1 rfl (Nat.le_of_ble_eq_true rfl) ⟨Nat.zero_le _, Nat.zero_le _⟩ dX12_dreams_23 ?_
    clear hP hD hS; intro H locs hP hD hS
    obtain ⟨hz_26, hf⟩ := zg_s hf
    cases hf
    rw [hQ]
    exact r_zret C hr hP hD hS hz_26 rfl dX12_dreams_26
  · replace hf := it_f c_10 hf
    refine lv_aload_n (pc := 13) hx hb dX12_dreams_13 rfl (lv_at hl 0 rfl) ?_
    refine lv_iload_n (pc := 14) hx hb dX12_dreams_14 rfl (lv_at hl 2 rfl) ?_
    obtain ⟨r_15, hc_15, hf⟩ := bd1 hf
    refine r_dalVi (pc := 15) (ws' := (wX12_dreams0 E h h_tape h_far h_from h_real h_other h_kept h_set h_w h_book h_noteSort h_whose h_what h_noteIs h_fitting h_dawn h_likes h_walked h_came 0 v_trouble v_where v_read v_taped v_size v_at v_sort v_place v_sign v_number v_fault v_wrongAt v_word v_marks v_notes v_set)) (As := [.int p1]) (rest := []) C (ctX12_isDream0 l E h h_tape h_far h_from h_real h_other h_kept h_set h_w h_book h_noteSort h_whose h_what h_noteIs h_fitting h_dawn h_likes h_walked h_came 0 v_trouble v_where v_read v_taped v_size v_at v_sort v_place v_sign v_number v_fault v_wrongAt v_word v_marks v_notes N p1 r_15 hc_15) ml_X12_382 ⟨Nat.le_of_ble_eq_true rfl, Nat.le_of_ble_eq_true rfl⟩ hP hD hS 0 rfl rfl rfl [0] [2, 1] 2 rfl rfl rfl rfl rfl rfl rfl hl.1 rfl (Nat.le_of_ble_eq_true rfl) ⟨Nat.zero_le _, Nat.zero_le _⟩ dX12_dreams_15 ?_
    clear hP hD hS; intro H locs hP hD hS
    refine lv_if_ne (pc := 18) (tgt := 27) hx hb dX12_dreams_18 (by decide) (fun c_18 => ?_) (fun c_18 => ?_)
    · replace hf := it_f c_18 hf
      refine lv_aload_n (pc := 27) hx hb dX12_dreams_27 rfl (lv_at hl 0 rfl) ?_
      refine r_get (pc := 28) C hP 0 rfl fl_X12_33 rfl dX12_dreams_28 ?_
      refine lv_iload_n (pc := 31) hx hb dX12_dreams_31 rfl (lv_at hl 1 rfl) ?_
      refine lv_iload_n (pc := 32) hx hb dX12_dreams_32 rfl (lv_at hl 2 rfl) ?_
      obtain ⟨hi_33, hf⟩ := gd_s hf
      refine r_iast (pc := 33) (ws' := (wX12_dreams0 E h h_tape h_far h_from h_real h_other h_kept h_set h_w h_book h_noteSort h_whose h_what h_noteIs h_fitting h_dawn h_likes h_walked h_came 0 v_trouble v_where v_read v_taped v_size v_at v_sort v_place v_sign v_number v_fault v_wrongAt v_word v_marks v_notes (upd v_set p0.toNatClampNeg p1))) C hP hD hS 1 rfl hi_33 rfl dX12_dreams_33 ?_
      clear hP hD hS; intro H locs hP hD hS
      refine lv_aload_n (pc := 34) hx hb dX12_dreams_34 rfl (lv_at hl 0 rfl) ?_
      obtain ⟨r_35, v_trouble_35, v_where_35, hc_35, hf⟩ := bd3 hf
      refine r_dalVi (pc := 35) (ws' := (wX12_dreams0 E h h_tape h_far h_from h_real h_other h_kept h_set h_w h_book h_noteSort h_whose h_what h_noteIs h_fitting h_dawn h_likes h_walked h_came 0 v_trouble_35 v_where_35 v_read v_taped v_size v_at v_sort v_place v_sign v_number v_fault v_wrongAt v_word v_marks v_notes (upd v_set p0.toNatClampNeg p1))) (As := []) (rest := []) C (ctX12_granted l E h h_tape h_far h_from h_real h_other h_kept h_set h_w h_book h_noteSort h_whose h_what h_noteIs h_fitting h_dawn h_likes h_walked h_came 0 v_trouble v_where none v_read v_taped v_size v_at v_sort v_place v_sign v_number v_fault v_wrongAt v_word v_marks v_notes N (r_35, v_trouble_35, v_where_35) hc_35) ml_X12_418 ⟨Nat.le_of_ble_eq_true rfl, Nat.le_of_ble_eq_true rfl⟩ hP hD hS 0 rfl rfl rfl [0] [2, 1] 2 rfl rfl rfl rfl rfl rfl rfl hl.1 rfl (Nat.le_of_ble_eq_true rfl) ⟨Nat.zero_le _, Nat.zero_le _⟩ dX12_dreams_35 ?_
      clear hP hD hS; intro H locs hP hD hS
      obtain ⟨hz_38, hf⟩ := zg_s hf
      cases hf
      rw [hQ]
      exact r_zret C hr hP hD hS hz_38 rfl dX12_dreams_38
    · replace hf := it_t c_18 hf
      refine lv_aload_n (pc := 21) hx hb dX12_dreams_21 rfl (lv_at hl 0 rfl) ?_
      refine lv_iconst (pc := 22) (v := 1) hx hb dX12_dreams_22 (by decide) ?_
      obtain ⟨r_23, v_trouble_23, v_where_23, hc_23, hf⟩ := bd3 hf
      refine r_dalVi (pc := 23) (ws' := (wX12_dreams0 E h h_tape h_far h_from h_real h_other h_kept h_set h_w h_book h_noteSort h_whose h_what h_noteIs h_fitting h_dawn h_likes h_walked h_came 0 v_trouble_23 v_where_23 v_read v_taped v_size v_at v_sort v_place v_sign v_number v_fault v_wrongAt v_word v_marks v_notes v_set)) (As := [.int 1]) (rest := []) C (ctX12_denied l E h h_tape h_far h_from h_real h_other h_kept h_set h_w h_book h_noteSort h_whose h_what h_noteIs h_fitting h_dawn h_likes h_walked h_came 0 v_trouble v_where none v_read v_taped v_size v_at v_sort v_place v_sign v_number v_fault v_wrongAt v_word v_marks v_notes N 1 (r_23, v_trouble_23, v_where_23) hc_23) ml_X12_415 ⟨Nat.le_of_ble_eq_true rfl, Nat.le_of_ble_eq_true rfl⟩ hP hD hS 0 rfl rfl rfl [0] [2, 1] 2 rfl rfl rfl rfl rfl rfl rfl hl.1 rfl (Nat.le_of_ble_eq_true rfl) ⟨Nat.zero_le _, Nat.zero_le _⟩ dX12_dreams_23 ?_
      clear hP hD hS; intro H locs hP hD hS
      obtain ⟨hz_26, hf⟩ := zg_s hf
      cases hf
      rw [hQ]
      exact r_zret C hr hP hD hS hz_26 rfl dX12_dreams_26
def wX12_passAll (E : EN) (h h_inn h_tape h_far h_from h_real h_other h_kept h_set h_w h_book h_noteSort h_whose h_what h_noteIs h_fitting h_dawn h_likes h_walked h_came h_inn_creak h_inn_doorA h_inn_doorB h_inn_how h_inn_lies h_inn_isCold h_inn_falls h_inn_isFull h_inn_isTold h_inn_act h_inn_what h_inn_then h_inn_met h_inn_bed h_inn_dream h_inn_listens h_inn_name h_inn_nameSort h_inn_nameNumber : Nat) (v_thrown : Int32) (v_trouble : Int32) (v_where : Int32) (v_read : Option Nat) (v_taped : Int32) (v_size : Int32) (v_at : Int32) (v_sort : Int32) (v_place : Int32) (v_sign : Int32) (v_number : Int32) (v_fault : Int32) (v_wrongAt : Int32) (v_word : Int64) (v_marks : Int32) (v_notes : Int32) (v_w : Nat → Int32) (v_inn_minutes : Int32) (v_inn_rooms : Int32) (v_inn_doors : Int32) (v_inn_things : Int32) (v_inn_dreams : Int32) (v_inn_sleepers : Int32) (v_inn_listeners : Int32) (v_inn_names : Int32) (v_inn_isTold : Nat → Int32) (v_inn_act : Nat → Int32) (v_inn_then : Nat → Int32) (v_inn_what : Nat → Int32) (v_inn_doorA : Nat → Int32) (v_inn_doorB : Nat → Int32) (v_from : Nat → Int32) (v_inn_falls : Nat → Int32) (v_inn_creak : Nat → Int32) (v_inn_listens : Nat → Int32) (v_far : Nat → Int32) (v_inn_isCold : Nat → Int32) (v_inn_met : Nat → Int32) : va_W := [(h, .inr (11, [.int v_thrown, .int v_trouble, .int v_where, .ref h_inn, va_rf v_read, .ref h_tape, .int v_taped, .int v_size, .int v_at, .int v_sort, .int v_place, .int v_sign, .int v_number, .int v_fault, .int v_wrongAt, .long v_word, .ref h_far, .ref h_from, .ref h_real, .ref h_other, .ref h_kept, .ref h_set, .ref h_w, .int v_marks, .int v_notes, .ref h_book, .ref h_noteSort, .ref h_whose, .ref h_what, .ref h_noteIs, .ref h_fitting, .ref h_dawn, .ref h_likes, .ref h_walked, .ref h_came])), (h_w, aI E 51 v_w), (h_inn, .inr (10, [.int v_inn_minutes, .int v_inn_rooms, .int v_inn_doors, .int v_inn_things, .int v_inn_dreams, .int v_inn_sleepers, .int v_inn_listeners, .int v_inn_names, .ref h_inn_creak, .ref h_inn_doorA, .ref h_inn_doorB, .ref h_inn_how, .ref h_inn_lies, .ref h_inn_isCold, .ref h_inn_falls, .ref h_inn_isFull, .ref h_inn_isTold, .ref h_inn_act, .ref h_inn_what, .ref h_inn_then, .ref h_inn_met, .ref h_inn_bed, .ref h_inn_dream, .ref h_inn_listens, .ref h_inn_name, .ref h_inn_nameSort, .ref h_inn_nameNumber])), (h_inn_isTold, aZ E 16 v_inn_isTold), (h_inn_act, aI E 16 v_inn_act), (h_inn_then, aI E 16 v_inn_then), (h_inn_what, aI E 16 v_inn_what), (h_inn_doorA, aI E 10 v_inn_doorA), (h_inn_doorB, aI E 10 v_inn_doorB), (h_from, aI E 8 v_from), (h_inn_falls, aZ E 10 v_inn_falls), (h_inn_creak, aI E 8 v_inn_creak), (h_inn_listens, aI E 3 v_inn_listens), (h_far, aI E 64 v_far), (h_inn_isCold, aZ E 8 v_inn_isCold), (h_inn_met, aI E 16 v_inn_met)]
def BX12_passAll_2 (p0 : Int32) (v_inn_minutes : Int32) (N : Nat) (v_inn_rooms : Int32) (v_inn_doors : Int32) (v_inn_sleepers : Int32) (v_inn_listeners : Int32) (v_inn_isTold : Nat → Int32) (v_inn_act : Nat → Int32) (v_inn_then : Nat → Int32) (v_inn_what : Nat → Int32) (v_inn_doorA : Nat → Int32) (v_inn_doorB : Nat → Int32) (v_inn_falls : Nat → Int32) (v_inn_creak : Nat → Int32) (v_inn_listens : Nat → Int32) (v_far : Nat → Int32) (v_inn_isCold : Nat → Int32) (v_inn_met : Nat → Int32) (rec2 : (Int32 × (Nat → Int32) × (Nat → Int32)) → Option (Int32 × (Nat → Int32) × (Nat → Int32))) : (Int32 × (Nat → Int32) × (Nat → Int32)) → Option (Int32 × (Nat → Int32) × (Nat → Int32)) := un3 fun (x2_2 : Int32) (x2_w : Nat → Int32) (x2_from : Nat → Int32) => if p0 ≤ x2_2 then (some (x2_2, x2_w, x2_from)) else (gd 49 51 (if v_inn_minutes ≤ (x2_w (49 : Int32).toNatClampNeg) then (some (x2_2, x2_w, x2_from)) else ((fX12_passes N x2_w v_inn_rooms v_inn_doors v_inn_sleepers v_inn_listeners v_inn_isTold v_inn_act v_inn_then v_inn_what v_inn_doorA v_inn_doorB x2_from v_inn_falls v_inn_creak v_inn_listens v_far v_inn_isCold v_inn_met).bind (un2 fun (v_w_25 : Nat → Int32) (v_from_25 : Nat → Int32) => rec2 (x2_2 + 1, v_w_25, v_from_25)))))
def fX12_passAll (N : Nat) (p0 : Int32) (v_w : Nat → Int32) (v_inn_minutes : Int32) (v_inn_rooms : Int32) (v_inn_doors : Int32) (v_inn_sleepers : Int32) (v_inn_listeners : Int32) (v_inn_isTold : Nat → Int32) (v_inn_act : Nat → Int32) (v_inn_then : Nat → Int32) (v_inn_what : Nat → Int32) (v_inn_doorA : Nat → Int32) (v_inn_doorB : Nat → Int32) (v_from : Nat → Int32) (v_inn_falls : Nat → Int32) (v_inn_creak : Nat → Int32) (v_inn_listens : Nat → Int32) (v_far : Nat → Int32) (v_inn_isCold : Nat → Int32) (v_inn_met : Nat → Int32) : Option (Int32 × (Nat → Int32) × (Nat → Int32)) := lp (BX12_passAll_2 p0 v_inn_minutes N v_inn_rooms v_inn_doors v_inn_sleepers v_inn_listeners v_inn_isTold v_inn_act v_inn_then v_inn_what v_inn_doorA v_inn_doorB v_inn_falls v_inn_creak v_inn_listens v_far v_inn_isCold v_inn_met) N (0, v_w, v_from)
set_option maxHeartbeats 4000000 in
set_option maxRecDepth 100000 in
theorem ctX12_passAll (l : Launch) (E : EN) (h h_inn h_tape h_far h_from h_real h_other h_kept h_set h_w h_book h_noteSort h_whose h_what h_noteIs h_fitting h_dawn h_likes h_walked h_came h_inn_creak h_inn_doorA h_inn_doorB h_inn_how h_inn_lies h_inn_isCold h_inn_falls h_inn_isFull h_inn_isTold h_inn_act h_inn_what h_inn_then h_inn_met h_inn_bed h_inn_dream h_inn_listens h_inn_name h_inn_nameSort h_inn_nameNumber : Nat) (v_thrown : Int32) (v_trouble : Int32) (v_where : Int32) (v_read : Option Nat) (v_taped : Int32) (v_size : Int32) (v_at : Int32) (v_sort : Int32) (v_place : Int32) (v_sign : Int32) (v_number : Int32) (v_fault : Int32) (v_wrongAt : Int32) (v_word : Int64) (v_marks : Int32) (v_notes : Int32) (v_w : Nat → Int32) (v_inn_minutes : Int32) (v_inn_rooms : Int32) (v_inn_doors : Int32) (v_inn_things : Int32) (v_inn_dreams : Int32) (v_inn_sleepers : Int32) (v_inn_listeners : Int32) (v_inn_names : Int32) (v_inn_isTold : Nat → Int32) (v_inn_act : Nat → Int32) (v_inn_then : Nat → Int32) (v_inn_what : Nat → Int32) (v_inn_doorA : Nat → Int32) (v_inn_doorB : Nat → Int32) (v_from : Nat → Int32) (v_inn_falls : Nat → Int32) (v_inn_creak : Nat → Int32) (v_inn_listens : Nat → Int32) (v_far : Nat → Int32) (v_inn_isCold : Nat → Int32) (v_inn_met : Nat → Int32) (N : Nat) (p0 : Int32) (z : Int32 × (Nat → Int32) × (Nat → Int32)) (hf : fX12_passAll N p0 v_w v_inn_minutes v_inn_rooms v_inn_doors v_inn_sleepers v_inn_listeners v_inn_isTold v_inn_act v_inn_then v_inn_what v_inn_doorA v_inn_doorB v_from v_inn_falls v_inn_creak v_inn_listens v_far v_inn_isCold v_inn_met = some z) : CTi l E yX12_passAll cX12_passAll 3 .int 5 116 [.ref h, .int p0] (wX12_passAll E h h_inn h_tape h_far h_from h_real h_other h_kept h_set h_w h_book h_noteSort h_whose h_what h_noteIs h_fitting h_dawn h_likes h_walked h_came h_inn_creak h_inn_doorA h_inn_doorB h_inn_how h_inn_lies h_inn_isCold h_inn_falls h_inn_isFull h_inn_isTold h_inn_act h_inn_what h_inn_then h_inn_met h_inn_bed h_inn_dream h_inn_listens h_inn_name h_inn_nameSort h_inn_nameNumber v_thrown v_trouble v_where v_read v_taped v_size v_at v_sort v_place v_sign v_number v_fault v_wrongAt v_word v_marks v_notes v_w v_inn_minutes v_inn_rooms v_inn_doors v_inn_things v_inn_dreams v_inn_sleepers v_inn_listeners v_inn_names v_inn_isTold v_inn_act v_inn_then v_inn_what v_inn_doorA v_inn_doorB v_from v_inn_falls v_inn_creak v_inn_listens v_far v_inn_isCold v_inn_met) (z.1) (wX12_passAll E h h_inn h_tape h_far h_from h_real h_other h_kept h_set h_w h_book h_noteSort h_whose h_what h_noteIs h_fitting h_dawn h_likes h_walked h_came h_inn_creak h_inn_doorA h_inn_doorB h_inn_how h_inn_lies h_inn_isCold h_inn_falls h_inn_isFull h_inn_isTold h_inn_act h_inn_what h_inn_then h_inn_met h_inn_bed h_inn_dream h_inn_listens h_inn_name h_inn_nameSort h_inn_nameNumber v_thrown v_trouble v_where v_read v_taped v_size v_at v_sort v_place v_sign v_number v_fault v_wrongAt v_word v_marks v_notes z.2.1 v_inn_minutes v_inn_rooms v_inn_doors v_inn_things v_inn_dreams v_inn_sleepers v_inn_listeners v_inn_names v_inn_isTold v_inn_act v_inn_then v_inn_what v_inn_doorA v_inn_doorB z.2.2 v_inn_falls v_inn_creak v_inn_listens v_far v_inn_isCold v_inn_met) := by
  intro sz
  refine ct_body (by decide) (Nat.le_of_ble_eq_true rfl) ?_
  intro p e s m args below meth c A ls hAe C hr hin hP hD hS hl
  have C : CX p s m args meth c cX12_passAll RX12 3 E A := C
  have hl : lv_has ls 3 [(0, .ref h), (1, .int p0)] := hl
  have hx := C.1
  have hb := C.2.1
  rw [hAe]
  clear hAe
  obtain ⟨Q, hQ⟩ : ∃ Q, Q = MQ below (Qi E A (z.1) (wX12_passAll E h h_inn h_tape h_far h_from h_real h_other h_kept h_set h_w h_book h_noteSort h_whose h_what h_noteIs h_fitting h_dawn h_likes h_walked h_came h_inn_creak h_inn_doorA h_inn_doorB h_inn_how h_inn_lies h_inn_isCold h_inn_falls h_inn_isFull h_inn_isTold h_inn_act h_inn_what h_inn_then h_inn_met h_inn_bed h_inn_dream h_inn_listens h_inn_name h_inn_nameSort h_inn_nameNumber v_thrown v_trouble v_where v_read v_taped v_size v_at v_sort v_place v_sign v_number v_fault v_wrongAt v_word v_marks v_notes z.2.1 v_inn_minutes v_inn_rooms v_inn_doors v_inn_things v_inn_dreams v_inn_sleepers v_inn_listeners v_inn_names v_inn_isTold v_inn_act v_inn_then v_inn_what v_inn_doorA v_inn_doorB z.2.2 v_inn_falls v_inn_creak v_inn_listens v_far v_inn_isCold v_inn_met)) args s 0 0 A := ⟨_, rfl⟩
  rw [← hQ]
  unfold fX12_passAll at hf
  refine lv_iconst (pc := 0) (v := 0) hx hb dX12_passAll_0 (by decide) ?_
  refine lv_istore_n (pc := 1) (lv' := [(2, .int 0), (0, .ref h), (1, .int p0)]) hx hb dX12_passAll_1 rfl hl (by decide) rfl (fun ls hl => ?_)
  have key2 : ∀ (n : Nat) (x2_2 : Int32) (x2_w : Nat → Int32) (x2_from : Nat → Int32) , lp (BX12_passAll_2 p0 v_inn_minutes N v_inn_rooms v_inn_doors v_inn_sleepers v_inn_listeners v_inn_isTold v_inn_act v_inn_then v_inn_what v_inn_doorA v_inn_doorB v_inn_falls v_inn_creak v_inn_listens v_far v_inn_isCold v_inn_met) n (x2_2, x2_w, x2_from) = some z → AT p l e (rmOf 5 116) s m args below meth c E A Q 0 0 3 [(0, .ref h), (1, .int p0), (2, .int x2_2)] (wX12_passAll E h h_inn h_tape h_far h_from h_real h_other h_kept h_set h_w h_book h_noteSort h_whose h_what h_noteIs h_fitting h_dawn h_likes h_walked h_came h_inn_creak h_inn_doorA h_inn_doorB h_inn_how h_inn_lies h_inn_isCold h_inn_falls h_inn_isFull h_inn_isTold h_inn_act h_inn_what h_inn_then h_inn_met h_inn_bed h_inn_dream h_inn_listens h_inn_name h_inn_nameSort h_inn_nameNumber v_thrown v_trouble v_where v_read v_taped v_size v_at v_sort v_place v_sign v_number v_fault v_wrongAt v_word v_marks v_notes x2_w v_inn_minutes v_inn_rooms v_inn_doors v_inn_things v_inn_dreams v_inn_sleepers v_inn_listeners v_inn_names v_inn_isTold v_inn_act v_inn_then v_inn_what v_inn_doorA v_inn_doorB x2_from v_inn_falls v_inn_creak v_inn_listens v_far v_inn_isCold v_inn_met) 2 [] := by
    intro n
    induction n with
    | zero => intro x2_2 x2_w x2_from hf; exact (lp_0 hf).elim
    | succ n ih2 =>
      intro x2_2 x2_w x2_from hf H locs ls hl hP hD hS
      replace hf := lp_s hf
      generalize lp (BX12_passAll_2 p0 v_inn_minutes N v_inn_rooms v_inn_doors v_inn_sleepers v_inn_listeners v_inn_isTold v_inn_act v_inn_then v_inn_what v_inn_doorA v_inn_doorB v_inn_falls v_inn_creak v_inn_listens v_far v_inn_isCold v_inn_met) n = rec2 at ih2 hf
      unfold BX12_passAll_2 at hf
      replace hf := un3_s hf
      refine lv_iload_n (pc := 2) hx hb dX12_passAll_2 rfl (lv_at hl 2 rfl) ?_
      refine lv_iload_n (pc := 3) hx hb dX12_passAll_3 rfl (lv_at hl 1 rfl) ?_
      refine lv_icmp_ge (pc := 4) (tgt := 34) hx hb dX12_passAll_4 (by decide) (fun c_4 => ?_) (fun c_4 => ?_)
      · replace hf := it_t c_4 hf
        refine lv_iload_n (pc := 34) hx hb dX12_passAll_34 rfl (lv_at hl 2 rfl) ?_
        cases hf
        rw [hQ]
        exact r_iret C hr hP hD hS rfl dX12_passAll_35
      · replace hf := it_f c_4 hf
        refine lv_aload_n (pc := 7) hx hb dX12_passAll_7 rfl (lv_at hl 0 rfl) ?_
        refine r_get (pc := 8) C hP 0 rfl fl_X12_36 rfl dX12_passAll_8 ?_
        refine lv_bipush (pc := 11) (v := 49) hx hb dX12_passAll_11 (by decide) ?_
        obtain ⟨hi_13, hf⟩ := gd_s hf
        refine r_iald (pc := 13) C hP 1 rfl hi_13 dX12_passAll_13 ?_
        refine lv_aload_n (pc := 14) hx hb dX12_passAll_14 rfl (lv_at hl 0 rfl) ?_
        refine r_get (pc := 15) C hP 0 rfl fl_X12_358 rfl dX12_passAll_15 ?_
        refine r_get (pc := 18) C hP 2 rfl fl_X12_241 rfl dX12_passAll_18 ?_
        refine lv_icmp_ge (pc := 21) (tgt := 34) hx hb dX12_passAll_21 (by decide) (fun c_21 => ?_) (fun c_21 => ?_)
        · replace hf := it_t c_21 hf
          refine lv_iload_n (pc := 34) hx hb dX12_passAll_34 rfl (lv_at hl 2 rfl) ?_
          cases hf
          rw [hQ]
          exact r_iret C hr hP hD hS rfl dX12_passAll_35
        · replace hf := it_f c_21 hf
          refine lv_aload_n (pc := 24) hx hb dX12_passAll_24 rfl (lv_at hl 0 rfl) ?_
          obtain ⟨v_w_25, v_from_25, hc_25, hf⟩ := bd2 hf
          refine r_dalVv (pc := 25) (ws' := (wX12_passAll E h h_inn h_tape h_far h_from h_real h_other h_kept h_set h_w h_book h_noteSort h_whose h_what h_noteIs h_fitting h_dawn h_likes h_walked h_came h_inn_creak h_inn_doorA h_inn_doorB h_inn_how h_inn_lies h_inn_isCold h_inn_falls h_inn_isFull h_inn_isTold h_inn_act h_inn_what h_inn_then h_inn_met h_inn_bed h_inn_dream h_inn_listens h_inn_name h_inn_nameSort h_inn_nameNumber v_thrown v_trouble v_where v_read v_taped v_size v_at v_sort v_place v_sign v_number v_fault v_wrongAt v_word v_marks v_notes v_w_25 v_inn_minutes v_inn_rooms v_inn_doors v_inn_things v_inn_dreams v_inn_sleepers v_inn_listeners v_inn_names v_inn_isTold v_inn_act v_inn_then v_inn_what v_inn_doorA v_inn_doorB v_from_25 v_inn_falls v_inn_creak v_inn_listens v_far v_inn_isCold v_inn_met)) (As := []) (rest := []) C (ctX12_passes l E h h_inn h_tape h_far h_from h_real h_other h_kept h_set h_w h_book h_noteSort h_whose h_what h_noteIs h_fitting h_dawn h_likes h_walked h_came h_inn_creak h_inn_doorA h_inn_doorB h_inn_how h_inn_lies h_inn_isCold h_inn_falls h_inn_isFull h_inn_isTold h_inn_act h_inn_what h_inn_then h_inn_met h_inn_bed h_inn_dream h_inn_listens h_inn_name h_inn_nameSort h_inn_nameNumber v_thrown v_trouble v_where v_read v_taped v_size v_at v_sort v_place v_sign v_number v_fault v_wrongAt v_word v_marks v_notes x2_w v_inn_minutes v_inn_rooms v_inn_doors v_inn_things v_inn_dreams v_inn_sleepers v_inn_listeners v_inn_names v_inn_isTold v_inn_act v_inn_then v_inn_what v_inn_doorA v_inn_doorB x2_from v_inn_falls v_inn_creak v_inn_listens v_far v_inn_isCold v_inn_met N (v_w_25, v_from_25) hc_25) ml_X12_424 ⟨Nat.le_of_ble_eq_true rfl, Nat.le_of_ble_eq_true rfl⟩ hP hD hS 0 rfl rfl rfl [0, 1, 2, 3, 4, 5, 6, 7, 8, 9, 10, 11, 12, 13, 14, 15] [16, 17, 18, 19, 20, 21, 22, 23, 24, 25, 26, 27, 28, 29, 30, 31] 16 rfl rfl rfl rfl rfl rfl rfl hl.1 rfl (Nat.le_of_ble_eq_true rfl) ⟨Nat.zero_le _, Nat.zero_le _⟩ dX12_passAll_25 ?_
          clear hP hD hS; intro H locs hP hD hS
          refine lv_iinc (pc := 28) (v := x2_2 + 1) (lv' := [(2, .int (x2_2 + 1)), (0, .ref h), (1, .int p0)]) hx hb dX12_passAll_28 hl (k := 2) rfl rfl (by decide) rfl (fun ls hl => ?_)
          refine lv_goto (pc := 31) (tgt := 2) hx hb dX12_passAll_31 (by decide) ?_
          exact ih2 (x2_2 + 1) v_w_25 v_from_25 hf _ _ _ (lv_sub hl [1, 2, 0] rfl) hP hD hS
  exact key2 _ 0 v_w v_from hf _ _ _ (lv_sub hl [1, 2, 0] rfl) hP hD hS
def wX12_minutes (E : EN) (h h_inn h_tape h_far h_from h_real h_other h_kept h_set h_w h_book h_noteSort h_whose h_what h_noteIs h_fitting h_dawn h_likes h_walked h_came h_inn_creak h_inn_doorA h_inn_doorB h_inn_how h_inn_lies h_inn_isCold h_inn_falls h_inn_isFull h_inn_isTold h_inn_act h_inn_what h_inn_then h_inn_met h_inn_bed h_inn_dream h_inn_listens h_inn_name h_inn_nameSort h_inn_nameNumber : Nat) (v_thrown : Int32) (v_trouble : Int32) (v_where : Int32) (v_read : Option Nat) (v_taped : Int32) (v_size : Int32) (v_at : Int32) (v_sort : Int32) (v_place : Int32) (v_sign : Int32) (v_number : Int32) (v_fault : Int32) (v_wrongAt : Int32) (v_word : Int64) (v_marks : Int32) (v_notes : Int32) (v_w : Nat → Int32) (v_inn_minutes : Int32) (v_inn_rooms : Int32) (v_inn_doors : Int32) (v_inn_things : Int32) (v_inn_dreams : Int32) (v_inn_sleepers : Int32) (v_inn_listeners : Int32) (v_inn_names : Int32) (v_inn_isTold : Nat → Int32) (v_inn_act : Nat → Int32) (v_inn_then : Nat → Int32) (v_inn_what : Nat → Int32) (v_inn_doorA : Nat → Int32) (v_inn_doorB : Nat → Int32) (v_from : Nat → Int32) (v_inn_falls : Nat → Int32) (v_inn_creak : Nat → Int32) (v_inn_listens : Nat → Int32) (v_far : Nat → Int32) (v_inn_isCold : Nat → Int32) (v_inn_met : Nat → Int32) : va_W := [(h, .inr (11, [.int v_thrown, .int v_trouble, .int v_where, .ref h_inn, va_rf v_read, .ref h_tape, .int v_taped, .int v_size, .int v_at, .int v_sort, .int v_place, .int v_sign, .int v_number, .int v_fault, .int v_wrongAt, .long v_word, .ref h_far, .ref h_from, .ref h_real, .ref h_other, .ref h_kept, .ref h_set, .ref h_w, .int v_marks, .int v_notes, .ref h_book, .ref h_noteSort, .ref h_whose, .ref h_what, .ref h_noteIs, .ref h_fitting, .ref h_dawn, .ref h_likes, .ref h_walked, .ref h_came])), (h_w, aI E 51 v_w), (h_inn, .inr (10, [.int v_inn_minutes, .int v_inn_rooms, .int v_inn_doors, .int v_inn_things, .int v_inn_dreams, .int v_inn_sleepers, .int v_inn_listeners, .int v_inn_names, .ref h_inn_creak, .ref h_inn_doorA, .ref h_inn_doorB, .ref h_inn_how, .ref h_inn_lies, .ref h_inn_isCold, .ref h_inn_falls, .ref h_inn_isFull, .ref h_inn_isTold, .ref h_inn_act, .ref h_inn_what, .ref h_inn_then, .ref h_inn_met, .ref h_inn_bed, .ref h_inn_dream, .ref h_inn_listens, .ref h_inn_name, .ref h_inn_nameSort, .ref h_inn_nameNumber])), (h_inn_isTold, aZ E 16 v_inn_isTold), (h_inn_act, aI E 16 v_inn_act), (h_inn_then, aI E 16 v_inn_then), (h_inn_what, aI E 16 v_inn_what), (h_inn_doorA, aI E 10 v_inn_doorA), (h_inn_doorB, aI E 10 v_inn_doorB), (h_from, aI E 8 v_from), (h_inn_falls, aZ E 10 v_inn_falls), (h_inn_creak, aI E 8 v_inn_creak), (h_inn_listens, aI E 3 v_inn_listens), (h_far, aI E 64 v_far), (h_inn_isCold, aZ E 8 v_inn_isCold), (h_inn_met, aI E 16 v_inn_met)]
def fX12_minutes (N : Nat) (p0 : Int32) (v_w : Nat → Int32) (v_inn_minutes : Int32) (v_inn_rooms : Int32) (v_inn_doors : Int32) (v_inn_sleepers : Int32) (v_inn_listeners : Int32) (v_inn_isTold : Nat → Int32) (v_inn_act : Nat → Int32) (v_inn_then : Nat → Int32) (v_inn_what : Nat → Int32) (v_inn_doorA : Nat → Int32) (v_inn_doorB : Nat → Int32) (v_from : Nat → Int32) (v_inn_falls : Nat → Int32) (v_inn_creak : Nat → Int32) (v_inn_listens : Nat → Int32) (v_far : Nat → Int32) (v_inn_isCold : Nat → Int32) (v_inn_met : Nat → Int32) : Option (Int32 × Int32 × Int32 × Int32 × (Nat → Int32) × (Nat → Int32)) := (fX12_in N p0 1 40).bind (un1 fun (r_22 : Int32) => if r_22 = 0 then ((fX12_refused N 2).bind (un3 fun (r_30 : Int32) (v_trouble_30 : Int32) (v_where_30 : Int32) => some (r_30, 0, v_trouble_30, v_where_30, v_w, v_from))) else (gd 49 51 (if (v_w (49 : Int32).toNatClampNeg) = v_inn_minutes then ((fX12_refused N 6).bind (un3 fun (r_54 : Int32) (v_trouble_54 : Int32) (v_where_54 : Int32) => some (r_54, 0, v_trouble_54, v_where_54, v_w, v_from))) else ((fX12_passAll N p0 v_w v_inn_minutes v_inn_rooms v_inn_doors v_inn_sleepers v_inn_listeners v_inn_isTold v_inn_act v_inn_then v_inn_what v_inn_doorA v_inn_doorB v_from v_inn_falls v_inn_creak v_inn_listens v_far v_inn_isCold v_inn_met).bind (un3 fun (r_63 : Int32) (v_w_63 : Nat → Int32) (v_from_63 : Nat → Int32) => (fX12_good N r_63).bind (un3 fun (r_66 : Int32) (v_trouble_66 : Int32) (v_where_66 : Int32) => some (r_66, 0, v_trouble_66, v_where_66, v_w_63, v_from_63)))))))
set_option maxHeartbeats 4000000 in
set_option maxRecDepth 100000 in
theorem ctX12_minutes (l : Launch) (E : EN) (h h_inn h_tape h_far h_from h_real h_other h_kept h_set h_w h_book h_noteSort h_whose h_what h_noteIs h_fitting h_dawn h_likes h_walked h_came h_inn_creak h_inn_doorA h_inn_doorB h_inn_how h_inn_lies h_inn_isCold h_inn_falls h_inn_isFull h_inn_isTold h_inn_act h_inn_what h_inn_then h_inn_met h_inn_bed h_inn_dream h_inn_listens h_inn_name h_inn_nameSort h_inn_nameNumber : Nat) (v_thrown : Int32) (v_trouble : Int32) (v_where : Int32) (v_read : Option Nat) (v_taped : Int32) (v_size : Int32) (v_at : Int32) (v_sort : Int32) (v_place : Int32) (v_sign : Int32) (v_number : Int32) (v_fault : Int32) (v_wrongAt : Int32) (v_word : Int64) (v_marks : Int32) (v_notes : Int32) (v_w : Nat → Int32) (v_inn_minutes : Int32) (v_inn_rooms : Int32) (v_inn_doors : Int32) (v_inn_things : Int32) (v_inn_dreams : Int32) (v_inn_sleepers : Int32) (v_inn_listeners : Int32) (v_inn_names : Int32) (v_inn_isTold : Nat → Int32) (v_inn_act : Nat → Int32) (v_inn_then : Nat → Int32) (v_inn_what : Nat → Int32) (v_inn_doorA : Nat → Int32) (v_inn_doorB : Nat → Int32) (v_from : Nat → Int32) (v_inn_falls : Nat → Int32) (v_inn_creak : Nat → Int32) (v_inn_listens : Nat → Int32) (v_far : Nat → Int32) (v_inn_isCold : Nat → Int32) (v_inn_met : Nat → Int32) (N : Nat) (p0 : Int32) (z : Int32 × Int32 × Int32 × Int32 × (Nat → Int32) × (Nat → Int32)) (hf : fX12_minutes N p0 v_w v_inn_minutes v_inn_rooms v_inn_doors v_inn_sleepers v_inn_listeners v_inn_isTold v_inn_act v_inn_then v_inn_what v_inn_doorA v_inn_doorB v_from v_inn_falls v_inn_creak v_inn_listens v_far v_inn_isCold v_inn_met = some z) : CTi l E yX12_minutes cX12_minutes 2 .int 6 138 [.ref h, .int p0] (wX12_minutes E h h_inn h_tape h_far h_from h_real h_other h_kept h_set h_w h_book h_noteSort h_whose h_what h_noteIs h_fitting h_dawn h_likes h_walked h_came h_inn_creak h_inn_doorA h_inn_doorB h_inn_how h_inn_lies h_inn_isCold h_inn_falls h_inn_isFull h_inn_isTold h_inn_act h_inn_what h_inn_then h_inn_met h_inn_bed h_inn_dream h_inn_listens h_inn_name h_inn_nameSort h_inn_nameNumber v_thrown v_trouble v_where v_read v_taped v_size v_at v_sort v_place v_sign v_number v_fault v_wrongAt v_word v_marks v_notes v_w v_inn_minutes v_inn_rooms v_inn_doors v_inn_things v_inn_dreams v_inn_sleepers v_inn_listeners v_inn_names v_inn_isTold v_inn_act v_inn_then v_inn_what v_inn_doorA v_inn_doorB v_from v_inn_falls v_inn_creak v_inn_listens v_far v_inn_isCold v_inn_met) (z.1) (wX12_minutes E h h_inn h_tape h_far h_from h_real h_other h_kept h_set h_w h_book h_noteSort h_whose h_what h_noteIs h_fitting h_dawn h_likes h_walked h_came h_inn_creak h_inn_doorA h_inn_doorB h_inn_how h_inn_lies h_inn_isCold h_inn_falls h_inn_isFull h_inn_isTold h_inn_act h_inn_what h_inn_then h_inn_met h_inn_bed h_inn_dream h_inn_listens h_inn_name h_inn_nameSort h_inn_nameNumber z.2.1 z.2.2.1 z.2.2.2.1 v_read v_taped v_size v_at v_sort v_place v_sign v_number v_fault v_wrongAt v_word v_marks v_notes z.2.2.2.2.1 v_inn_minutes v_inn_rooms v_inn_doors v_inn_things v_inn_dreams v_inn_sleepers v_inn_listeners v_inn_names v_inn_isTold v_inn_act v_inn_then v_inn_what v_inn_doorA v_inn_doorB z.2.2.2.2.2 v_inn_falls v_inn_creak v_inn_listens v_far v_inn_isCold v_inn_met) := by
  intro sz
  refine ct_body (by decide) (Nat.le_of_ble_eq_true rfl) ?_
  intro p e s m args below meth c A ls hAe C hr hin hP hD hS hl
  have C : CX p s m args meth c cX12_minutes RX12 2 E A := C
  have hl : lv_has ls 2 [(0, .ref h), (1, .int p0)] := hl
  have hx := C.1
  have hb := C.2.1
  rw [hAe]
  clear hAe
  obtain ⟨Q, hQ⟩ : ∃ Q, Q = MQ below (Qi E A (z.1) (wX12_minutes E h h_inn h_tape h_far h_from h_real h_other h_kept h_set h_w h_book h_noteSort h_whose h_what h_noteIs h_fitting h_dawn h_likes h_walked h_came h_inn_creak h_inn_doorA h_inn_doorB h_inn_how h_inn_lies h_inn_isCold h_inn_falls h_inn_isFull h_inn_isTold h_inn_act h_inn_what h_inn_then h_inn_met h_inn_bed h_inn_dream h_inn_listens h_inn_name h_inn_nameSort h_inn_nameNumber z.2.1 z.2.2.1 z.2.2.2.1 v_read v_taped v_size v_at v_sort v_place v_sign v_number v_fault v_wrongAt v_word v_marks v_notes z.2.2.2.2.1 v_inn_minutes v_inn_rooms v_inn_doors v_inn_things v_inn_dreams v_inn_sleepers v_inn_listeners v_inn_names v_inn_isTold v_inn_act v_inn_then v_inn_what v_inn_doorA v_inn_doorB z.2.2.2.2.2 v_inn_falls v_inn_creak v_inn_listens v_far v_inn_isCold v_inn_met)) args s 0 0 A := ⟨_, rfl⟩
  rw [← hQ]
  unfold fX12_minutes at hf
  refine lv_aload_n (pc := 0) hx hb dX12_minutes_0 rfl (lv_at hl 0 rfl) ?_
  refine lv_iconst (pc := 1) (v := 0) hx hb dX12_minutes_1 (by decide) ?_
  refine r_put (pc := 2) (ws' := (wX12_minutes E h h_inn h_tape h_far h_from h_real h_other h_kept h_set h_w h_book h_noteSort h_whose h_what h_noteIs h_fitting h_dawn h_likes h_walked h_came h_inn_creak h_inn_doorA h_inn_doorB h_inn_how h_inn_lies h_inn_isCold h_inn_falls h_inn_isFull h_inn_isTold h_inn_act h_inn_what h_inn_then h_inn_met h_inn_bed h_inn_dream h_inn_listens h_inn_name h_inn_nameSort h_inn_nameNumber 0 v_trouble v_where v_read v_taped v_size v_at v_sort v_place v_sign v_number v_fault v_wrongAt v_word v_marks v_notes v_w v_inn_minutes v_inn_rooms v_inn_doors v_inn_things v_inn_dreams v_inn_sleepers v_inn_listeners v_inn_names v_inn_isTold v_inn_act v_inn_then v_inn_what v_inn_doorA v_inn_doorB v_from v_inn_falls v_inn_creak v_inn_listens v_far v_inn_isCold v_inn_met)) C hP hD hS 0 rfl fl_X12_71 rfl rfl (Nat.le_of_ble_eq_true rfl) rfl dX12_minutes_2 ?_
  clear hP hD hS; intro H locs hP hD hS
  refine lv_aload_n (pc := 5) hx hb dX12_minutes_5 rfl (lv_at hl 0 rfl) ?_
  refine r_get (pc := 6) C hP 0 rfl fl_X12_358 rfl dX12_minutes_6 ?_
  refine lv_ifnonnull (pc := 9) (tgt := 18) hx hb dX12_minutes_9 (by decide) ?_
  refine lv_iload_n (pc := 18) hx hb dX12_minutes_18 rfl (lv_at hl 1 rfl) ?_
  refine lv_iconst (pc := 19) (v := 1) hx hb dX12_minutes_19 (by decide) ?_
  refine lv_bipush (pc := 20) (v := 40) hx hb dX12_minutes_20 (by decide) ?_
  obtain ⟨r_22, hc_22, hf⟩ := bd1 hf
  refine r_dalSi (pc := 22) (Cn := "") (h := 0) (ws' := (wX12_minutes E h h_inn h_tape h_far h_from h_real h_other h_kept h_set h_w h_book h_noteSort h_whose h_what h_noteIs h_fitting h_dawn h_likes h_walked h_came h_inn_creak h_inn_doorA h_inn_doorB h_inn_how h_inn_lies h_inn_isCold h_inn_falls h_inn_isFull h_inn_isTold h_inn_act h_inn_what h_inn_then h_inn_met h_inn_bed h_inn_dream h_inn_listens h_inn_name h_inn_nameSort h_inn_nameNumber 0 v_trouble v_where v_read v_taped v_size v_at v_sort v_place v_sign v_number v_fault v_wrongAt v_word v_marks v_notes v_w v_inn_minutes v_inn_rooms v_inn_doors v_inn_things v_inn_dreams v_inn_sleepers v_inn_listeners v_inn_names v_inn_isTold v_inn_act v_inn_then v_inn_what v_inn_doorA v_inn_doorB v_from v_inn_falls v_inn_creak v_inn_listens v_far v_inn_isCold v_inn_met)) (As := [.int p0, .int 1, .int 40]) (rest := []) C (ctX12_in l E N p0 1 40 r_22 hc_22) ml_X12_149 ⟨Nat.le_of_ble_eq_true rfl, Nat.le_of_ble_eq_true rfl⟩ hP hD hS [] [0, 1, 2, 3, 4, 5, 6, 7, 8, 9, 10, 11, 12, 13, 14, 15] 16 rfl rfl rfl rfl rfl rfl rfl hl.1 rfl (Nat.le_of_ble_eq_true rfl) ⟨Nat.zero_le _, Nat.zero_le _⟩ dX12_minutes_22 ?_
  clear hP hD hS; intro H locs hP hD hS
  refine lv_if_ne (pc := 25) (tgt := 34) hx hb dX12_minutes_25 (by decide) (fun c_25 => ?_) (fun c_25 => ?_)
  · replace hf := it_f c_25 hf
    refine lv_aload_n (pc := 34) hx hb dX12_minutes_34 rfl (lv_at hl 0 rfl) ?_
    refine r_get (pc := 35) C hP 0 rfl fl_X12_36 rfl dX12_minutes_35 ?_
    refine lv_bipush (pc := 38) (v := 49) hx hb dX12_minutes_38 (by decide) ?_
    obtain ⟨hi_40, hf⟩ := gd_s hf
    refine r_iald (pc := 40) C hP 1 rfl hi_40 dX12_minutes_40 ?_
    refine lv_aload_n (pc := 41) hx hb dX12_minutes_41 rfl (lv_at hl 0 rfl) ?_
    refine r_get (pc := 42) C hP 0 rfl fl_X12_358 rfl dX12_minutes_42 ?_
    refine r_get (pc := 45) C hP 2 rfl fl_X12_241 rfl dX12_minutes_45 ?_
    refine lv_icmp_ne (pc := 48) (tgt := 60) hx hb dX12_minutes_48 (by decide) (fun c_48 => ?_) (fun c_48 => ?_)
    · replace hf := it_f c_48 hf
      refine lv_aload_n (pc := 60) hx hb dX12_minutes_60 rfl (lv_at hl 0 rfl) ?_
      refine lv_aload_n (pc := 61) hx hb dX12_minutes_61 rfl (lv_at hl 0 rfl) ?_
      refine lv_iload_n (pc := 62) hx hb dX12_minutes_62 rfl (lv_at hl 1 rfl) ?_
      obtain ⟨r_63, v_w_63, v_from_63, hc_63, hf⟩ := bd3 hf
      refine r_dalVi (pc := 63) (ws' := (wX12_minutes E h h_inn h_tape h_far h_from h_real h_other h_kept h_set h_w h_book h_noteSort h_whose h_what h_noteIs h_fitting h_dawn h_likes h_walked h_came h_inn_creak h_inn_doorA h_inn_doorB h_inn_how h_inn_lies h_inn_isCold h_inn_falls h_inn_isFull h_inn_isTold h_inn_act h_inn_what h_inn_then h_inn_met h_inn_bed h_inn_dream h_inn_listens h_inn_name h_inn_nameSort h_inn_nameNumber 0 v_trouble v_where v_read v_taped v_size v_at v_sort v_place v_sign v_number v_fault v_wrongAt v_word v_marks v_notes v_w_63 v_inn_minutes v_inn_rooms v_inn_doors v_inn_things v_inn_dreams v_inn_sleepers v_inn_listeners v_inn_names v_inn_isTold v_inn_act v_inn_then v_inn_what v_inn_doorA v_inn_doorB v_from_63 v_inn_falls v_inn_creak v_inn_listens v_far v_inn_isCold v_inn_met)) (As := [.int p0]) (rest := [.ref h]) C (ctX12_passAll l E h h_inn h_tape h_far h_from h_real h_other h_kept h_set h_w h_book h_noteSort h_whose h_what h_noteIs h_fitting h_dawn h_likes h_walked h_came h_inn_creak h_inn_doorA h_inn_doorB h_inn_how h_inn_lies h_inn_isCold h_inn_falls h_inn_isFull h_inn_isTold h_inn_act h_inn_what h_inn_then h_inn_met h_inn_bed h_inn_dream h_inn_listens h_inn_name h_inn_nameSort h_inn_nameNumber 0 v_trouble v_where v_read v_taped v_size v_at v_sort v_place v_sign v_number v_fault v_wrongAt v_word v_marks v_notes v_w v_inn_minutes v_inn_rooms v_inn_doors v_inn_things v_inn_dreams v_inn_sleepers v_inn_listeners v_inn_names v_inn_isTold v_inn_act v_inn_then v_inn_what v_inn_doorA v_inn_doorB v_from v_inn_falls v_inn_creak v_inn_listens v_far v_inn_isCold v_inn_met N p0 (r_63, v_w_63, v_from_63) hc_63) ml_X12_427 ⟨Nat.le_of_ble_eq_true rfl, Nat.le_of_ble_eq_true rfl⟩ hP hD hS 0 rfl rfl rfl [0, 1, 2, 3, 4, 5, 6, 7, 8, 9, 10, 11, 12, 13, 14, 15] [16, 17, 18, 19, 20, 21, 22, 23, 24, 25, 26, 27, 28, 29, 30, 31] 16 rfl rfl rfl rfl rfl rfl rfl hl.1 rfl (Nat.le_of_ble_eq_true rfl) ⟨Nat.zero_le _, Nat.zero_le _⟩ dX12_minutes_63 ?_
      clear hP hD hS; intro H locs hP hD hS
      obtain ⟨r_66, v_trouble_66, v_where_66, hc_66, hf⟩ := bd3 hf
      refine r_dalVi (pc := 66) (ws' := (wX12_minutes E h h_inn h_tape h_far h_from h_real h_other h_kept h_set h_w h_book h_noteSort h_whose h_what h_noteIs h_fitting h_dawn h_likes h_walked h_came h_inn_creak h_inn_doorA h_inn_doorB h_inn_how h_inn_lies h_inn_isCold h_inn_falls h_inn_isFull h_inn_isTold h_inn_act h_inn_what h_inn_then h_inn_met h_inn_bed h_inn_dream h_inn_listens h_inn_name h_inn_nameSort h_inn_nameNumber 0 v_trouble_66 v_where_66 v_read v_taped v_size v_at v_sort v_place v_sign v_number v_fault v_wrongAt v_word v_marks v_notes v_w_63 v_inn_minutes v_inn_rooms v_inn_doors v_inn_things v_inn_dreams v_inn_sleepers v_inn_listeners v_inn_names v_inn_isTold v_inn_act v_inn_then v_inn_what v_inn_doorA v_inn_doorB v_from_63 v_inn_falls v_inn_creak v_inn_listens v_far v_inn_isCold v_inn_met)) (As := [.int r_63]) (rest := []) C (ctX12_good l E h h_tape h_far h_from h_real h_other h_kept h_set h_w h_book h_noteSort h_whose h_what h_noteIs h_fitting h_dawn h_likes h_walked h_came 0 v_trouble v_where (some h_inn) v_read v_taped v_size v_at v_sort v_place v_sign v_number v_fault v_wrongAt v_word v_marks v_notes N r_63 (r_66, v_trouble_66, v_where_66) hc_66) ml_X12_81 ⟨Nat.le_of_ble_eq_true rfl, Nat.le_of_ble_eq_true rfl⟩ hP hD hS 0 rfl rfl rfl [0] [16, 1, 2, 3, 4, 5, 6, 7, 8, 9, 10, 11, 12, 13, 14, 15] 16 rfl rfl rfl rfl rfl rfl rfl hl.1 rfl (Nat.le_of_ble_eq_true rfl) ⟨Nat.zero_le _, Nat.zero_le _⟩ dX12_minutes_66 ?_
      clear hP hD hS; intro H locs hP hD hS
      cases hf
      rw [hQ]
      exact r_iret C hr hP hD hS rfl dX12_minutes_69
    · replace hf := it_t c_48 hf
      refine lv_aload_n (pc := 51) hx hb dX12_minutes_51 rfl (lv_at hl 0 rfl) ?_
      refine lv_bipush (pc := 52) (v := 6) hx hb dX12_minutes_52 (by decide) ?_
      obtain ⟨r_54, v_trouble_54, v_where_54, hc_54, hf⟩ := bd3 hf
      refine r_dalVi (pc := 54) (ws' := (wX12_minutes E h h_inn h_tape h_far h_from h_real h_other h_kept h_set h_w h_book h_noteSort h_whose h_what h_noteIs h_fitting h_dawn h_likes h_walked h_came h_inn_creak h_inn_doorA h_inn_doorB h_inn_how h_inn_lies h_inn_isCold h_inn_falls h_inn_isFull h_inn_isTold h_inn_act h_inn_what h_inn_then h_inn_met h_inn_bed h_inn_dream h_inn_listens h_inn_name h_inn_nameSort h_inn_nameNumber 0 v_trouble_54 v_where_54 v_read v_taped v_size v_at v_sort v_place v_sign v_number v_fault v_wrongAt v_word v_marks v_notes v_w v_inn_minutes v_inn_rooms v_inn_doors v_inn_things v_inn_dreams v_inn_sleepers v_inn_listeners v_inn_names v_inn_isTold v_inn_act v_inn_then v_inn_what v_inn_doorA v_inn_doorB v_from v_inn_falls v_inn_creak v_inn_listens v_far v_inn_isCold v_inn_met)) (As := [.int 6]) (rest := []) C (ctX12_refused l E h h_tape h_far h_from h_real h_other h_kept h_set h_w h_book h_noteSort h_whose h_what h_noteIs h_fitting h_dawn h_likes h_walked h_came 0 v_trouble v_where (some h_inn) v_read v_taped v_size v_at v_sort v_place v_sign v_number v_fault v_wrongAt v_word v_marks v_notes N 6 (r_54, v_trouble_54, v_where_54) hc_54) ml_X12_77 ⟨Nat.le_of_ble_eq_true rfl, Nat.le_of_ble_eq_true rfl⟩ hP hD hS 0 rfl rfl rfl [0] [16, 1, 2, 3, 4, 5, 6, 7, 8, 9, 10, 11, 12, 13, 14, 15] 16 rfl rfl rfl rfl rfl rfl rfl hl.1 rfl (Nat.le_of_ble_eq_true rfl) ⟨Nat.zero_le _, Nat.zero_le _⟩ dX12_minutes_54 ?_
      clear hP hD hS; intro H locs hP hD hS
      refine lv_goto (pc := 57) (tgt := 69) hx hb dX12_minutes_57 (by decide) ?_
      cases hf
      rw [hQ]
      exact r_iret C hr hP hD hS rfl dX12_minutes_69
  · replace hf := it_t c_25 hf
    refine lv_aload_n (pc := 28) hx hb dX12_minutes_28 rfl (lv_at hl 0 rfl) ?_
    refine lv_iconst (pc := 29) (v := 2) hx hb dX12_minutes_29 (by decide) ?_
    obtain ⟨r_30, v_trouble_30, v_where_30, hc_30, hf⟩ := bd3 hf
    refine r_dalVi (pc := 30) (ws' := (wX12_minutes E h h_inn h_tape h_far h_from h_real h_other h_kept h_set h_w h_book h_noteSort h_whose h_what h_noteIs h_fitting h_dawn h_likes h_walked h_came h_inn_creak h_inn_doorA h_inn_doorB h_inn_how h_inn_lies h_inn_isCold h_inn_falls h_inn_isFull h_inn_isTold h_inn_act h_inn_what h_inn_then h_inn_met h_inn_bed h_inn_dream h_inn_listens h_inn_name h_inn_nameSort h_inn_nameNumber 0 v_trouble_30 v_where_30 v_read v_taped v_size v_at v_sort v_place v_sign v_number v_fault v_wrongAt v_word v_marks v_notes v_w v_inn_minutes v_inn_rooms v_inn_doors v_inn_things v_inn_dreams v_inn_sleepers v_inn_listeners v_inn_names v_inn_isTold v_inn_act v_inn_then v_inn_what v_inn_doorA v_inn_doorB v_from v_inn_falls v_inn_creak v_inn_listens v_far v_inn_isCold v_inn_met)) (As := [.int 2]) (rest := []) C (ctX12_refused l E h h_tape h_far h_from h_real h_other h_kept h_set h_w h_book h_noteSort h_whose h_what h_noteIs h_fitting h_dawn h_likes h_walked h_came 0 v_trouble v_where (some h_inn) v_read v_taped v_size v_at v_sort v_place v_sign v_number v_fault v_wrongAt v_word v_marks v_notes N 2 (r_30, v_trouble_30, v_where_30) hc_30) ml_X12_77 ⟨Nat.le_of_ble_eq_true rfl, Nat.le_of_ble_eq_true rfl⟩ hP hD hS 0 rfl rfl rfl [0] [16, 1, 2, 3, 4, 5, 6, 7, 8, 9, 10, 11, 12, 13, 14, 15] 16 rfl rfl rfl rfl rfl rfl rfl hl.1 rfl (Nat.le_of_ble_eq_true rfl) ⟨Nat.zero_le _, Nat.zero_le _⟩ dX12_minutes_30 ?_
    clear hP hD hS; intro H locs hP hD hS
    cases hf
    rw [hQ]
    exact r_iret C hr hP hD hS rfl dX12_minutes_33
def wX12_minutes0 (E : EN) (h h_tape h_far h_from h_real h_other h_kept h_set h_w h_book h_noteSort h_whose h_what h_noteIs h_fitting h_dawn h_likes h_walked h_came : Nat) (v_thrown : Int32) (v_trouble : Int32) (v_where : Int32) (v_read : Option Nat) (v_taped : Int32) (v_size : Int32) (v_at : Int32) (v_sort : Int32) (v_place : Int32) (v_sign : Int32) (v_number : Int32) (v_fault : Int32) (v_wrongAt : Int32) (v_word : Int64) (v_marks : Int32) (v_notes : Int32) : va_W := [(h, .inr (11, [.int v_thrown, .int v_trouble, .int v_where, .null, va_rf v_read, .ref h_tape, .int v_taped, .int v_size, .int v_at, .int v_sort, .int v_place, .int v_sign, .int v_number, .int v_fault, .int v_wrongAt, .long v_word, .ref h_far, .ref h_from, .ref h_real, .ref h_other, .ref h_kept, .ref h_set, .ref h_w, .int v_marks, .int v_notes, .ref h_book, .ref h_noteSort, .ref h_whose, .ref h_what, .ref h_noteIs, .ref h_fitting, .ref h_dawn, .ref h_likes, .ref h_walked, .ref h_came]))]
def fX12_minutes0 (N : Nat) : Option (Int32 × Int32 × Int32 × Int32) := (fX12_refused N 1).bind (un3 fun (r_14 : Int32) (v_trouble_14 : Int32) (v_where_14 : Int32) => some (r_14, 0, v_trouble_14, v_where_14))
set_option maxHeartbeats 4000000 in
set_option maxRecDepth 100000 in
theorem ctX12_minutes0 (l : Launch) (E : EN) (h h_tape h_far h_from h_real h_other h_kept h_set h_w h_book h_noteSort h_whose h_what h_noteIs h_fitting h_dawn h_likes h_walked h_came : Nat) (v_thrown : Int32) (v_trouble : Int32) (v_where : Int32) (v_read : Option Nat) (v_taped : Int32) (v_size : Int32) (v_at : Int32) (v_sort : Int32) (v_place : Int32) (v_sign : Int32) (v_number : Int32) (v_fault : Int32) (v_wrongAt : Int32) (v_word : Int64) (v_marks : Int32) (v_notes : Int32) (N : Nat) (p0 : Int32) (z : Int32 × Int32 × Int32 × Int32) (hf : fX12_minutes0 N  = some z) : CTi l E yX12_minutes cX12_minutes 2 .int 1 21 [.ref h, .int p0] (wX12_minutes0 E h h_tape h_far h_from h_real h_other h_kept h_set h_w h_book h_noteSort h_whose h_what h_noteIs h_fitting h_dawn h_likes h_walked h_came v_thrown v_trouble v_where v_read v_taped v_size v_at v_sort v_place v_sign v_number v_fault v_wrongAt v_word v_marks v_notes) (z.1) (wX12_minutes0 E h h_tape h_far h_from h_real h_other h_kept h_set h_w h_book h_noteSort h_whose h_what h_noteIs h_fitting h_dawn h_likes h_walked h_came z.2.1 z.2.2.1 z.2.2.2 v_read v_taped v_size v_at v_sort v_place v_sign v_number v_fault v_wrongAt v_word v_marks v_notes) := by
  intro sz
  refine ct_body (by decide) (Nat.le_of_ble_eq_true rfl) ?_
  intro p e s m args below meth c A ls hAe C hr hin hP hD hS hl
  have C : CX p s m args meth c cX12_minutes RX12 2 E A := C
  have hl : lv_has ls 2 [(0, .ref h), (1, .int p0)] := hl
  have hx := C.1
  have hb := C.2.1
  rw [hAe]
  clear hAe
  obtain ⟨Q, hQ⟩ : ∃ Q, Q = MQ below (Qi E A (z.1) (wX12_minutes0 E h h_tape h_far h_from h_real h_other h_kept h_set h_w h_book h_noteSort h_whose h_what h_noteIs h_fitting h_dawn h_likes h_walked h_came z.2.1 z.2.2.1 z.2.2.2 v_read v_taped v_size v_at v_sort v_place v_sign v_number v_fault v_wrongAt v_word v_marks v_notes)) args s 0 0 A := ⟨_, rfl⟩
  rw [← hQ]
  unfold fX12_minutes0 at hf
  refine lv_aload_n (pc := 0) hx hb dX12_minutes_0 rfl (lv_at hl 0 rfl) ?_
  refine lv_iconst (pc := 1) (v := 0) hx hb dX12_minutes_1 (by decide) ?_
  refine r_put (pc := 2) (ws' := (wX12_minutes0 E h h_tape h_far h_from h_real h_other h_kept h_set h_w h_book h_noteSort h_whose h_what h_noteIs h_fitting h_dawn h_likes h_walked h_came 0 v_trouble v_where v_read v_taped v_size v_at v_sort v_place v_sign v_number v_fault v_wrongAt v_word v_marks v_notes)) C hP hD hS 0 rfl fl_X12_71 rfl rfl (Nat.le_of_ble_eq_true rfl) rfl dX12_minutes_2 ?_
  clear hP hD hS; intro H locs hP hD hS
  refine lv_aload_n (pc := 5) hx hb dX12_minutes_5 rfl (lv_at hl 0 rfl) ?_
  refine r_get (pc := 6) C hP 0 rfl fl_X12_358 rfl dX12_minutes_6 ?_
  refine lv_ifnonnullN (pc := 9) hx hb dX12_minutes_9 ?_
  refine lv_aload_n (pc := 12) hx hb dX12_minutes_12 rfl (lv_at hl 0 rfl) ?_
  refine lv_iconst (pc := 13) (v := 1) hx hb dX12_minutes_13 (by decide) ?_
  obtain ⟨r_14, v_trouble_14, v_where_14, hc_14, hf⟩ := bd3 hf
  refine r_dalVi (pc := 14) (ws' := (wX12_minutes0 E h h_tape h_far h_from h_real h_other h_kept h_set h_w h_book h_noteSort h_whose h_what h_noteIs h_fitting h_dawn h_likes h_walked h_came 0 v_trouble_14 v_where_14 v_read v_taped v_size v_at v_sort v_place v_sign v_number v_fault v_wrongAt v_word v_marks v_notes)) (As := [.int 1]) (rest := []) C (ctX12_refused l E h h_tape h_far h_from h_real h_other h_kept h_set h_w h_book h_noteSort h_whose h_what h_noteIs h_fitting h_dawn h_likes h_walked h_came 0 v_trouble v_where none v_read v_taped v_size v_at v_sort v_place v_sign v_number v_fault v_wrongAt v_word v_marks v_notes N 1 (r_14, v_trouble_14, v_where_14) hc_14) ml_X12_77 ⟨Nat.le_of_ble_eq_true rfl, Nat.le_of_ble_eq_true rfl⟩ hP hD hS 0 rfl rfl rfl [0] [1] 1 rfl rfl rfl rfl rfl rfl rfl hl.1 rfl (Nat.le_of_ble_eq_true rfl) ⟨Nat.zero_le _, Nat.zero_le _⟩ dX12_minutes_14 ?_
  clear hP hD hS; intro H locs hP hD hS
  cases hf
  rw [hQ]
  exact r_iret C hr hP hD hS rfl dX12_minutes_17
def wX12_morning (E : EN) (h h_inn h_tape h_far h_from h_real h_other h_kept h_set h_w h_book h_noteSort h_whose h_what h_noteIs h_fitting h_dawn h_likes h_walked h_came h_inn_creak h_inn_doorA h_inn_doorB h_inn_how h_inn_lies h_inn_isCold h_inn_falls h_inn_isFull h_inn_isTold h_inn_act h_inn_what h_inn_then h_inn_met h_inn_bed h_inn_dream h_inn_listens h_inn_name h_inn_nameSort h_inn_nameNumber : Nat) (v_thrown : Int32) (v_trouble : Int32) (v_where : Int32) (v_read : Option Nat) (v_taped : Int32) (v_size : Int32) (v_at : Int32) (v_sort : Int32) (v_place : Int32) (v_sign : Int32) (v_number : Int32) (v_fault : Int32) (v_wrongAt : Int32) (v_word : Int64) (v_marks : Int32) (v_notes : Int32) (v_w : Nat → Int32) (v_inn_minutes : Int32) (v_inn_rooms : Int32) (v_inn_doors : Int32) (v_inn_things : Int32) (v_inn_dreams : Int32) (v_inn_sleepers : Int32) (v_inn_listeners : Int32) (v_inn_names : Int32) (v_inn_isTold : Nat → Int32) (v_inn_act : Nat → Int32) (v_inn_then : Nat → Int32) (v_inn_what : Nat → Int32) (v_inn_doorA : Nat → Int32) (v_inn_doorB : Nat → Int32) (v_from : Nat → Int32) (v_inn_falls : Nat → Int32) (v_inn_creak : Nat → Int32) (v_inn_listens : Nat → Int32) (v_far : Nat → Int32) (v_inn_isCold : Nat → Int32) (v_inn_met : Nat → Int32) : va_W := [(h, .inr (11, [.int v_thrown, .int v_trouble, .int v_where, .ref h_inn, va_rf v_read, .ref h_tape, .int v_taped, .int v_size, .int v_at, .int v_sort, .int v_place, .int v_sign, .int v_number, .int v_fault, .int v_wrongAt, .long v_word, .ref h_far, .ref h_from, .ref h_real, .ref h_other, .ref h_kept, .ref h_set, .ref h_w, .int v_marks, .int v_notes, .ref h_book, .ref h_noteSort, .ref h_whose, .ref h_what, .ref h_noteIs, .ref h_fitting, .ref h_dawn, .ref h_likes, .ref h_walked, .ref h_came])), (h_w, aI E 51 v_w), (h_inn, .inr (10, [.int v_inn_minutes, .int v_inn_rooms, .int v_inn_doors, .int v_inn_things, .int v_inn_dreams, .int v_inn_sleepers, .int v_inn_listeners, .int v_inn_names, .ref h_inn_creak, .ref h_inn_doorA, .ref h_inn_doorB, .ref h_inn_how, .ref h_inn_lies, .ref h_inn_isCold, .ref h_inn_falls, .ref h_inn_isFull, .ref h_inn_isTold, .ref h_inn_act, .ref h_inn_what, .ref h_inn_then, .ref h_inn_met, .ref h_inn_bed, .ref h_inn_dream, .ref h_inn_listens, .ref h_inn_name, .ref h_inn_nameSort, .ref h_inn_nameNumber])), (h_inn_isTold, aZ E 16 v_inn_isTold), (h_inn_act, aI E 16 v_inn_act), (h_inn_then, aI E 16 v_inn_then), (h_inn_what, aI E 16 v_inn_what), (h_inn_doorA, aI E 10 v_inn_doorA), (h_inn_doorB, aI E 10 v_inn_doorB), (h_from, aI E 8 v_from), (h_inn_falls, aZ E 10 v_inn_falls), (h_inn_creak, aI E 8 v_inn_creak), (h_inn_listens, aI E 3 v_inn_listens), (h_far, aI E 64 v_far), (h_inn_isCold, aZ E 8 v_inn_isCold), (h_inn_met, aI E 16 v_inn_met)]
def fX12_morning (N : Nat) (v_w : Nat → Int32) (v_inn_minutes : Int32) (v_inn_rooms : Int32) (v_inn_doors : Int32) (v_inn_sleepers : Int32) (v_inn_listeners : Int32) (v_inn_isTold : Nat → Int32) (v_inn_act : Nat → Int32) (v_inn_then : Nat → Int32) (v_inn_what : Nat → Int32) (v_inn_doorA : Nat → Int32) (v_inn_doorB : Nat → Int32) (v_from : Nat → Int32) (v_inn_falls : Nat → Int32) (v_inn_creak : Nat → Int32) (v_inn_listens : Nat → Int32) (v_far : Nat → Int32) (v_inn_isCold : Nat → Int32) (v_inn_met : Nat → Int32) : Option (Int32 × Int32 × Int32 × Int32 × (Nat → Int32) × (Nat → Int32)) := (fX12_passAll N 40 v_w v_inn_minutes v_inn_rooms v_inn_doors v_inn_sleepers v_inn_listeners v_inn_isTold v_inn_act v_inn_then v_inn_what v_inn_doorA v_inn_doorB v_from v_inn_falls v_inn_creak v_inn_listens v_far v_inn_isCold v_inn_met).bind (un3 fun (r_24 : Int32) (v_w_24 : Nat → Int32) (v_from_24 : Nat → Int32) => (fX12_good N r_24).bind (un3 fun (r_27 : Int32) (v_trouble_27 : Int32) (v_where_27 : Int32) => some (r_27, 0, v_trouble_27, v_where_27, v_w_24, v_from_24)))
set_option maxHeartbeats 4000000 in
set_option maxRecDepth 100000 in
theorem ctX12_morning (l : Launch) (E : EN) (h h_inn h_tape h_far h_from h_real h_other h_kept h_set h_w h_book h_noteSort h_whose h_what h_noteIs h_fitting h_dawn h_likes h_walked h_came h_inn_creak h_inn_doorA h_inn_doorB h_inn_how h_inn_lies h_inn_isCold h_inn_falls h_inn_isFull h_inn_isTold h_inn_act h_inn_what h_inn_then h_inn_met h_inn_bed h_inn_dream h_inn_listens h_inn_name h_inn_nameSort h_inn_nameNumber : Nat) (v_thrown : Int32) (v_trouble : Int32) (v_where : Int32) (v_read : Option Nat) (v_taped : Int32) (v_size : Int32) (v_at : Int32) (v_sort : Int32) (v_place : Int32) (v_sign : Int32) (v_number : Int32) (v_fault : Int32) (v_wrongAt : Int32) (v_word : Int64) (v_marks : Int32) (v_notes : Int32) (v_w : Nat → Int32) (v_inn_minutes : Int32) (v_inn_rooms : Int32) (v_inn_doors : Int32) (v_inn_things : Int32) (v_inn_dreams : Int32) (v_inn_sleepers : Int32) (v_inn_listeners : Int32) (v_inn_names : Int32) (v_inn_isTold : Nat → Int32) (v_inn_act : Nat → Int32) (v_inn_then : Nat → Int32) (v_inn_what : Nat → Int32) (v_inn_doorA : Nat → Int32) (v_inn_doorB : Nat → Int32) (v_from : Nat → Int32) (v_inn_falls : Nat → Int32) (v_inn_creak : Nat → Int32) (v_inn_listens : Nat → Int32) (v_far : Nat → Int32) (v_inn_isCold : Nat → Int32) (v_inn_met : Nat → Int32) (N : Nat) (z : Int32 × Int32 × Int32 × Int32 × (Nat → Int32) × (Nat → Int32)) (hf : fX12_morning N v_w v_inn_minutes v_inn_rooms v_inn_doors v_inn_sleepers v_inn_listeners v_inn_isTold v_inn_act v_inn_then v_inn_what v_inn_doorA v_inn_doorB v_from v_inn_falls v_inn_creak v_inn_listens v_far v_inn_isCold v_inn_met = some z) : CTi l E yX12_morning cX12_morning 1 .int 6 138 [.ref h] (wX12_morning E h h_inn h_tape h_far h_from h_real h_other h_kept h_set h_w h_book h_noteSort h_whose h_what h_noteIs h_fitting h_dawn h_likes h_walked h_came h_inn_creak h_inn_doorA h_inn_doorB h_inn_how h_inn_lies h_inn_isCold h_inn_falls h_inn_isFull h_inn_isTold h_inn_act h_inn_what h_inn_then h_inn_met h_inn_bed h_inn_dream h_inn_listens h_inn_name h_inn_nameSort h_inn_nameNumber v_thrown v_trouble v_where v_read v_taped v_size v_at v_sort v_place v_sign v_number v_fault v_wrongAt v_word v_marks v_notes v_w v_inn_minutes v_inn_rooms v_inn_doors v_inn_things v_inn_dreams v_inn_sleepers v_inn_listeners v_inn_names v_inn_isTold v_inn_act v_inn_then v_inn_what v_inn_doorA v_inn_doorB v_from v_inn_falls v_inn_creak v_inn_listens v_far v_inn_isCold v_inn_met) (z.1) (wX12_morning E h h_inn h_tape h_far h_from h_real h_other h_kept h_set h_w h_book h_noteSort h_whose h_what h_noteIs h_fitting h_dawn h_likes h_walked h_came h_inn_creak h_inn_doorA h_inn_doorB h_inn_how h_inn_lies h_inn_isCold h_inn_falls h_inn_isFull h_inn_isTold h_inn_act h_inn_what h_inn_then h_inn_met h_inn_bed h_inn_dream h_inn_listens h_inn_name h_inn_nameSort h_inn_nameNumber z.2.1 z.2.2.1 z.2.2.2.1 v_read v_taped v_size v_at v_sort v_place v_sign v_number v_fault v_wrongAt v_word v_marks v_notes z.2.2.2.2.1 v_inn_minutes v_inn_rooms v_inn_doors v_inn_things v_inn_dreams v_inn_sleepers v_inn_listeners v_inn_names v_inn_isTold v_inn_act v_inn_then v_inn_what v_inn_doorA v_inn_doorB z.2.2.2.2.2 v_inn_falls v_inn_creak v_inn_listens v_far v_inn_isCold v_inn_met) := by
  intro sz
  refine ct_body (by decide) (Nat.le_of_ble_eq_true rfl) ?_
  intro p e s m args below meth c A ls hAe C hr hin hP hD hS hl
  have C : CX p s m args meth c cX12_morning RX12 1 E A := C
  have hl : lv_has ls 1 [(0, .ref h)] := hl
  have hx := C.1
  have hb := C.2.1
  rw [hAe]
  clear hAe
  obtain ⟨Q, hQ⟩ : ∃ Q, Q = MQ below (Qi E A (z.1) (wX12_morning E h h_inn h_tape h_far h_from h_real h_other h_kept h_set h_w h_book h_noteSort h_whose h_what h_noteIs h_fitting h_dawn h_likes h_walked h_came h_inn_creak h_inn_doorA h_inn_doorB h_inn_how h_inn_lies h_inn_isCold h_inn_falls h_inn_isFull h_inn_isTold h_inn_act h_inn_what h_inn_then h_inn_met h_inn_bed h_inn_dream h_inn_listens h_inn_name h_inn_nameSort h_inn_nameNumber z.2.1 z.2.2.1 z.2.2.2.1 v_read v_taped v_size v_at v_sort v_place v_sign v_number v_fault v_wrongAt v_word v_marks v_notes z.2.2.2.2.1 v_inn_minutes v_inn_rooms v_inn_doors v_inn_things v_inn_dreams v_inn_sleepers v_inn_listeners v_inn_names v_inn_isTold v_inn_act v_inn_then v_inn_what v_inn_doorA v_inn_doorB z.2.2.2.2.2 v_inn_falls v_inn_creak v_inn_listens v_far v_inn_isCold v_inn_met)) args s 0 0 A := ⟨_, rfl⟩
  rw [← hQ]
  unfold fX12_morning at hf
  refine lv_aload_n (pc := 0) hx hb dX12_morning_0 rfl (lv_at hl 0 rfl) ?_
  refine lv_iconst (pc := 1) (v := 0) hx hb dX12_morning_1 (by decide) ?_
  refine r_put (pc := 2) (ws' := (wX12_morning E h h_inn h_tape h_far h_from h_real h_other h_kept h_set h_w h_book h_noteSort h_whose h_what h_noteIs h_fitting h_dawn h_likes h_walked h_came h_inn_creak h_inn_doorA h_inn_doorB h_inn_how h_inn_lies h_inn_isCold h_inn_falls h_inn_isFull h_inn_isTold h_inn_act h_inn_what h_inn_then h_inn_met h_inn_bed h_inn_dream h_inn_listens h_inn_name h_inn_nameSort h_inn_nameNumber 0 v_trouble v_where v_read v_taped v_size v_at v_sort v_place v_sign v_number v_fault v_wrongAt v_word v_marks v_notes v_w v_inn_minutes v_inn_rooms v_inn_doors v_inn_things v_inn_dreams v_inn_sleepers v_inn_listeners v_inn_names v_inn_isTold v_inn_act v_inn_then v_inn_what v_inn_doorA v_inn_doorB v_from v_inn_falls v_inn_creak v_inn_listens v_far v_inn_isCold v_inn_met)) C hP hD hS 0 rfl fl_X12_71 rfl rfl (Nat.le_of_ble_eq_true rfl) rfl dX12_morning_2 ?_
  clear hP hD hS; intro H locs hP hD hS
  refine lv_aload_n (pc := 5) hx hb dX12_morning_5 rfl (lv_at hl 0 rfl) ?_
  refine r_get (pc := 6) C hP 0 rfl fl_X12_358 rfl dX12_morning_6 ?_
  refine lv_ifnonnull (pc := 9) (tgt := 20) hx hb dX12_morning_9 (by decide) ?_
  refine lv_aload_n (pc := 20) hx hb dX12_morning_20 rfl (lv_at hl 0 rfl) ?_
  refine lv_aload_n (pc := 21) hx hb dX12_morning_21 rfl (lv_at hl 0 rfl) ?_
  refine lv_bipush (pc := 22) (v := 40) hx hb dX12_morning_22 (by decide) ?_
  obtain ⟨r_24, v_w_24, v_from_24, hc_24, hf⟩ := bd3 hf
  refine r_dalVi (pc := 24) (ws' := (wX12_morning E h h_inn h_tape h_far h_from h_real h_other h_kept h_set h_w h_book h_noteSort h_whose h_what h_noteIs h_fitting h_dawn h_likes h_walked h_came h_inn_creak h_inn_doorA h_inn_doorB h_inn_how h_inn_lies h_inn_isCold h_inn_falls h_inn_isFull h_inn_isTold h_inn_act h_inn_what h_inn_then h_inn_met h_inn_bed h_inn_dream h_inn_listens h_inn_name h_inn_nameSort h_inn_nameNumber 0 v_trouble v_where v_read v_taped v_size v_at v_sort v_place v_sign v_number v_fault v_wrongAt v_word v_marks v_notes v_w_24 v_inn_minutes v_inn_rooms v_inn_doors v_inn_things v_inn_dreams v_inn_sleepers v_inn_listeners v_inn_names v_inn_isTold v_inn_act v_inn_then v_inn_what v_inn_doorA v_inn_doorB v_from_24 v_inn_falls v_inn_creak v_inn_listens v_far v_inn_isCold v_inn_met)) (As := [.int 40]) (rest := [.ref h]) C (ctX12_passAll l E h h_inn h_tape h_far h_from h_real h_other h_kept h_set h_w h_book h_noteSort h_whose h_what h_noteIs h_fitting h_dawn h_likes h_walked h_came h_inn_creak h_inn_doorA h_inn_doorB h_inn_how h_inn_lies h_inn_isCold h_inn_falls h_inn_isFull h_inn_isTold h_inn_act h_inn_what h_inn_then h_inn_met h_inn_bed h_inn_dream h_inn_listens h_inn_name h_inn_nameSort h_inn_nameNumber 0 v_trouble v_where v_read v_taped v_size v_at v_sort v_place v_sign v_number v_fault v_wrongAt v_word v_marks v_notes v_w v_inn_minutes v_inn_rooms v_inn_doors v_inn_things v_inn_dreams v_inn_sleepers v_inn_listeners v_inn_names v_inn_isTold v_inn_act v_inn_then v_inn_what v_inn_doorA v_inn_doorB v_from v_inn_falls v_inn_creak v_inn_listens v_far v_inn_isCold v_inn_met N 40 (r_24, v_w_24, v_from_24) hc_24) ml_X12_427 ⟨Nat.le_of_ble_eq_true rfl, Nat.le_of_ble_eq_true rfl⟩ hP hD hS 0 rfl rfl rfl [0, 1, 2, 3, 4, 5, 6, 7, 8, 9, 10, 11, 12, 13, 14, 15] [16, 17, 18, 19, 20, 21, 22, 23, 24, 25, 26, 27, 28, 29, 30, 31] 16 rfl rfl rfl rfl rfl rfl rfl hl.1 rfl (Nat.le_of_ble_eq_true rfl) ⟨Nat.zero_le _, Nat.zero_le _⟩ dX12_morning_24 ?_
  clear hP hD hS; intro H locs hP hD hS
  obtain ⟨r_27, v_trouble_27, v_where_27, hc_27, hf⟩ := bd3 hf
  refine r_dalVi (pc := 27) (ws' := (wX12_morning E h h_inn h_tape h_far h_from h_real h_other h_kept h_set h_w h_book h_noteSort h_whose h_what h_noteIs h_fitting h_dawn h_likes h_walked h_came h_inn_creak h_inn_doorA h_inn_doorB h_inn_how h_inn_lies h_inn_isCold h_inn_falls h_inn_isFull h_inn_isTold h_inn_act h_inn_what h_inn_then h_inn_met h_inn_bed h_inn_dream h_inn_listens h_inn_name h_inn_nameSort h_inn_nameNumber 0 v_trouble_27 v_where_27 v_read v_taped v_size v_at v_sort v_place v_sign v_number v_fault v_wrongAt v_word v_marks v_notes v_w_24 v_inn_minutes v_inn_rooms v_inn_doors v_inn_things v_inn_dreams v_inn_sleepers v_inn_listeners v_inn_names v_inn_isTold v_inn_act v_inn_then v_inn_what v_inn_doorA v_inn_doorB v_from_24 v_inn_falls v_inn_creak v_inn_listens v_far v_inn_isCold v_inn_met)) (As := [.int r_24]) (rest := []) C (ctX12_good l E h h_tape h_far h_from h_real h_other h_kept h_set h_w h_book h_noteSort h_whose h_what h_noteIs h_fitting h_dawn h_likes h_walked h_came 0 v_trouble v_where (some h_inn) v_read v_taped v_size v_at v_sort v_place v_sign v_number v_fault v_wrongAt v_word v_marks v_notes N r_24 (r_27, v_trouble_27, v_where_27) hc_27) ml_X12_81 ⟨Nat.le_of_ble_eq_true rfl, Nat.le_of_ble_eq_true rfl⟩ hP hD hS 0 rfl rfl rfl [0] [16, 1, 2, 3, 4, 5, 6, 7, 8, 9, 10, 11, 12, 13, 14, 15] 16 rfl rfl rfl rfl rfl rfl rfl hl.1 rfl (Nat.le_of_ble_eq_true rfl) ⟨Nat.zero_le _, Nat.zero_le _⟩ dX12_morning_27 ?_
  clear hP hD hS; intro H locs hP hD hS
  cases hf
  rw [hQ]
  exact r_iret C hr hP hD hS rfl dX12_morning_30
def wX12_morning0 (E : EN) (h h_tape h_far h_from h_real h_other h_kept h_set h_w h_book h_noteSort h_whose h_what h_noteIs h_fitting h_dawn h_likes h_walked h_came : Nat) (v_thrown : Int32) (v_trouble : Int32) (v_where : Int32) (v_read : Option Nat) (v_taped : Int32) (v_size : Int32) (v_at : Int32) (v_sort : Int32) (v_place : Int32) (v_sign : Int32) (v_number : Int32) (v_fault : Int32) (v_wrongAt : Int32) (v_word : Int64) (v_marks : Int32) (v_notes : Int32) : va_W := [(h, .inr (11, [.int v_thrown, .int v_trouble, .int v_where, .null, va_rf v_read, .ref h_tape, .int v_taped, .int v_size, .int v_at, .int v_sort, .int v_place, .int v_sign, .int v_number, .int v_fault, .int v_wrongAt, .long v_word, .ref h_far, .ref h_from, .ref h_real, .ref h_other, .ref h_kept, .ref h_set, .ref h_w, .int v_marks, .int v_notes, .ref h_book, .ref h_noteSort, .ref h_whose, .ref h_what, .ref h_noteIs, .ref h_fitting, .ref h_dawn, .ref h_likes, .ref h_walked, .ref h_came]))]
def fX12_morning0 (N : Nat) : Option (Int32 × Int32 × Int32 × Int32) := (fX12_refused N 1).bind (un3 fun (r_14 : Int32) (v_trouble_14 : Int32) (v_where_14 : Int32) => some (r_14, 0, v_trouble_14, v_where_14))
set_option maxHeartbeats 4000000 in
set_option maxRecDepth 100000 in
theorem ctX12_morning0 (l : Launch) (E : EN) (h h_tape h_far h_from h_real h_other h_kept h_set h_w h_book h_noteSort h_whose h_what h_noteIs h_fitting h_dawn h_likes h_walked h_came : Nat) (v_thrown : Int32) (v_trouble : Int32) (v_where : Int32) (v_read : Option Nat) (v_taped : Int32) (v_size : Int32) (v_at : Int32) (v_sort : Int32) (v_place : Int32) (v_sign : Int32) (v_number : Int32) (v_fault : Int32) (v_wrongAt : Int32) (v_word : Int64) (v_marks : Int32) (v_notes : Int32) (N : Nat) (z : Int32 × Int32 × Int32 × Int32) (hf : fX12_morning0 N  = some z) : CTi l E yX12_morning cX12_morning 1 .int 1 21 [.ref h] (wX12_morning0 E h h_tape h_far h_from h_real h_other h_kept h_set h_w h_book h_noteSort h_whose h_what h_noteIs h_fitting h_dawn h_likes h_walked h_came v_thrown v_trouble v_where v_read v_taped v_size v_at v_sort v_place v_sign v_number v_fault v_wrongAt v_word v_marks v_notes) (z.1) (wX12_morning0 E h h_tape h_far h_from h_real h_other h_kept h_set h_w h_book h_noteSort h_whose h_what h_noteIs h_fitting h_dawn h_likes h_walked h_came z.2.1 z.2.2.1 z.2.2.2 v_read v_taped v_size v_at v_sort v_place v_sign v_number v_fault v_wrongAt v_word v_marks v_notes) := by
  intro sz
  refine ct_body (by decide) (Nat.le_of_ble_eq_true rfl) ?_
  intro p e s m args below meth c A ls hAe C hr hin hP hD hS hl
  have C : CX p s m args meth c cX12_morning RX12 1 E A := C
  have hl : lv_has ls 1 [(0, .ref h)] := hl
  have hx := C.1
  have hb := C.2.1
  rw [hAe]
  clear hAe
  obtain ⟨Q, hQ⟩ : ∃ Q, Q = MQ below (Qi E A (z.1) (wX12_morning0 E h h_tape h_far h_from h_real h_other h_kept h_set h_w h_book h_noteSort h_whose h_what h_noteIs h_fitting h_dawn h_likes h_walked h_came z.2.1 z.2.2.1 z.2.2.2 v_read v_taped v_size v_at v_sort v_place v_sign v_number v_fault v_wrongAt v_word v_marks v_notes)) args s 0 0 A := ⟨_, rfl⟩
  rw [← hQ]
  unfold fX12_morning0 at hf
  refine lv_aload_n (pc := 0) hx hb dX12_morning_0 rfl (lv_at hl 0 rfl) ?_
  refine lv_iconst (pc := 1) (v := 0) hx hb dX12_morning_1 (by decide) ?_
  refine r_put (pc := 2) (ws' := (wX12_morning0 E h h_tape h_far h_from h_real h_other h_kept h_set h_w h_book h_noteSort h_whose h_what h_noteIs h_fitting h_dawn h_likes h_walked h_came 0 v_trouble v_where v_read v_taped v_size v_at v_sort v_place v_sign v_number v_fault v_wrongAt v_word v_marks v_notes)) C hP hD hS 0 rfl fl_X12_71 rfl rfl (Nat.le_of_ble_eq_true rfl) rfl dX12_morning_2 ?_
  clear hP hD hS; intro H locs hP hD hS
  refine lv_aload_n (pc := 5) hx hb dX12_morning_5 rfl (lv_at hl 0 rfl) ?_
  refine r_get (pc := 6) C hP 0 rfl fl_X12_358 rfl dX12_morning_6 ?_
  refine lv_ifnonnullN (pc := 9) hx hb dX12_morning_9 ?_
  refine lv_aload_n (pc := 12) hx hb dX12_morning_12 rfl (lv_at hl 0 rfl) ?_
  refine lv_iconst (pc := 13) (v := 1) hx hb dX12_morning_13 (by decide) ?_
  obtain ⟨r_14, v_trouble_14, v_where_14, hc_14, hf⟩ := bd3 hf
  refine r_dalVi (pc := 14) (ws' := (wX12_morning0 E h h_tape h_far h_from h_real h_other h_kept h_set h_w h_book h_noteSort h_whose h_what h_noteIs h_fitting h_dawn h_likes h_walked h_came 0 v_trouble_14 v_where_14 v_read v_taped v_size v_at v_sort v_place v_sign v_number v_fault v_wrongAt v_word v_marks v_notes)) (As := [.int 1]) (rest := []) C (ctX12_refused l E h h_tape h_far h_from h_real h_other h_kept h_set h_w h_book h_noteSort h_whose h_what h_noteIs h_fitting h_dawn h_likes h_walked h_came 0 v_trouble v_where none v_read v_taped v_size v_at v_sort v_place v_sign v_number v_fault v_wrongAt v_word v_marks v_notes N 1 (r_14, v_trouble_14, v_where_14) hc_14) ml_X12_77 ⟨Nat.le_of_ble_eq_true rfl, Nat.le_of_ble_eq_true rfl⟩ hP hD hS 0 rfl rfl rfl [0] [1] 1 rfl rfl rfl rfl rfl rfl rfl hl.1 rfl (Nat.le_of_ble_eq_true rfl) ⟨Nat.zero_le _, Nat.zero_le _⟩ dX12_morning_14 ?_
  clear hP hD hS; intro H locs hP hD hS
  refine lv_goto (pc := 17) (tgt := 30) hx hb dX12_morning_17 (by decide) ?_
  cases hf
  rw [hQ]
  exact r_iret C hr hP hD hS rfl dX12_morning_30
def wX12_sleeper (E : EN) (h h_inn h_tape h_far h_from h_real h_other h_kept h_set h_w h_book h_noteSort h_whose h_what h_noteIs h_fitting h_dawn h_likes h_walked h_came h_inn_creak h_inn_doorA h_inn_doorB h_inn_how h_inn_lies h_inn_isCold h_inn_falls h_inn_isFull h_inn_isTold h_inn_act h_inn_what h_inn_then h_inn_met h_inn_bed h_inn_dream h_inn_listens h_inn_name h_inn_nameSort h_inn_nameNumber : Nat) (v_thrown : Int32) (v_trouble : Int32) (v_where : Int32) (v_read : Option Nat) (v_taped : Int32) (v_size : Int32) (v_at : Int32) (v_sort : Int32) (v_place : Int32) (v_sign : Int32) (v_number : Int32) (v_fault : Int32) (v_wrongAt : Int32) (v_word : Int64) (v_marks : Int32) (v_notes : Int32) (v_inn_minutes : Int32) (v_inn_rooms : Int32) (v_inn_doors : Int32) (v_inn_things : Int32) (v_inn_dreams : Int32) (v_inn_sleepers : Int32) (v_inn_listeners : Int32) (v_inn_names : Int32) (v_w : Nat → Int32) : va_W := [(h, .inr (11, [.int v_thrown, .int v_trouble, .int v_where, .ref h_inn, va_rf v_read, .ref h_tape, .int v_taped, .int v_size, .int v_at, .int v_sort, .int v_place, .int v_sign, .int v_number, .int v_fault, .int v_wrongAt, .long v_word, .ref h_far, .ref h_from, .ref h_real, .ref h_other, .ref h_kept, .ref h_set, .ref h_w, .int v_marks, .int v_notes, .ref h_book, .ref h_noteSort, .ref h_whose, .ref h_what, .ref h_noteIs, .ref h_fitting, .ref h_dawn, .ref h_likes, .ref h_walked, .ref h_came])), (h_inn, .inr (10, [.int v_inn_minutes, .int v_inn_rooms, .int v_inn_doors, .int v_inn_things, .int v_inn_dreams, .int v_inn_sleepers, .int v_inn_listeners, .int v_inn_names, .ref h_inn_creak, .ref h_inn_doorA, .ref h_inn_doorB, .ref h_inn_how, .ref h_inn_lies, .ref h_inn_isCold, .ref h_inn_falls, .ref h_inn_isFull, .ref h_inn_isTold, .ref h_inn_act, .ref h_inn_what, .ref h_inn_then, .ref h_inn_met, .ref h_inn_bed, .ref h_inn_dream, .ref h_inn_listens, .ref h_inn_name, .ref h_inn_nameSort, .ref h_inn_nameNumber])), (h_w, aI E 51 v_w)]
def fX12_sleeper (N : Nat) (p0 : Int32) (p1 : Int32) (v_inn_sleepers : Int32) (v_w : Nat → Int32) : Option (Int32 × Int32 × Int32 × Int32) := (fX12_isSleeper N p0 v_inn_sleepers).bind (un1 fun (r_7 : Int32) => if r_7 = 0 then ((fX12_refused N 1).bind (un3 fun (r_24 : Int32) (v_trouble_24 : Int32) (v_where_24 : Int32) => some (r_24, 0, v_trouble_24, v_where_24))) else ((fX12_in N p1 0 4).bind (un1 fun (r_16 : Int32) => if r_16 = 0 then ((fX12_refused N 1).bind (un3 fun (r_24 : Int32) (v_trouble_24 : Int32) (v_where_24 : Int32) => some (r_24, 0, v_trouble_24, v_where_24))) else (jn (un1 fun (x72_s2 : Int32) => gd (x72_s2 + p0) 51 ((fX12_good N (v_w (x72_s2 + p0).toNatClampNeg)).bind (un3 fun (r_75 : Int32) (v_trouble_75 : Int32) (v_where_75 : Int32) => some (r_75, 0, v_trouble_75, v_where_75)))) (fun j72 => if p1 = 0 then (j72 0) else (if p1 = 1 then (j72 3) else (if p1 = 2 then (j72 6) else (if p1 = 3 then (j72 9) else (j72 12)))))))))
set_option maxHeartbeats 4000000 in
set_option maxRecDepth 100000 in
theorem ctX12_sleeper (l : Launch) (E : EN) (h h_inn h_tape h_far h_from h_real h_other h_kept h_set h_w h_book h_noteSort h_whose h_what h_noteIs h_fitting h_dawn h_likes h_walked h_came h_inn_creak h_inn_doorA h_inn_doorB h_inn_how h_inn_lies h_inn_isCold h_inn_falls h_inn_isFull h_inn_isTold h_inn_act h_inn_what h_inn_then h_inn_met h_inn_bed h_inn_dream h_inn_listens h_inn_name h_inn_nameSort h_inn_nameNumber : Nat) (v_thrown : Int32) (v_trouble : Int32) (v_where : Int32) (v_read : Option Nat) (v_taped : Int32) (v_size : Int32) (v_at : Int32) (v_sort : Int32) (v_place : Int32) (v_sign : Int32) (v_number : Int32) (v_fault : Int32) (v_wrongAt : Int32) (v_word : Int64) (v_marks : Int32) (v_notes : Int32) (v_inn_minutes : Int32) (v_inn_rooms : Int32) (v_inn_doors : Int32) (v_inn_things : Int32) (v_inn_dreams : Int32) (v_inn_sleepers : Int32) (v_inn_listeners : Int32) (v_inn_names : Int32) (v_w : Nat → Int32) (N : Nat) (p0 : Int32) (p1 : Int32) (z : Int32 × Int32 × Int32 × Int32) (hf : fX12_sleeper N p0 p1 v_inn_sleepers v_w = some z) : CTi l E yX12_sleeper cX12_sleeper 3 .int 1 22 [.ref h, .int p0, .int p1] (wX12_sleeper E h h_inn h_tape h_far h_from h_real h_other h_kept h_set h_w h_book h_noteSort h_whose h_what h_noteIs h_fitting h_dawn h_likes h_walked h_came h_inn_creak h_inn_doorA h_inn_doorB h_inn_how h_inn_lies h_inn_isCold h_inn_falls h_inn_isFull h_inn_isTold h_inn_act h_inn_what h_inn_then h_inn_met h_inn_bed h_inn_dream h_inn_listens h_inn_name h_inn_nameSort h_inn_nameNumber v_thrown v_trouble v_where v_read v_taped v_size v_at v_sort v_place v_sign v_number v_fault v_wrongAt v_word v_marks v_notes v_inn_minutes v_inn_rooms v_inn_doors v_inn_things v_inn_dreams v_inn_sleepers v_inn_listeners v_inn_names v_w) (z.1) (wX12_sleeper E h h_inn h_tape h_far h_from h_real h_other h_kept h_set h_w h_book h_noteSort h_whose h_what h_noteIs h_fitting h_dawn h_likes h_walked h_came h_inn_creak h_inn_doorA h_inn_doorB h_inn_how h_inn_lies h_inn_isCold h_inn_falls h_inn_isFull h_inn_isTold h_inn_act h_inn_what h_inn_then h_inn_met h_inn_bed h_inn_dream h_inn_listens h_inn_name h_inn_nameSort h_inn_nameNumber z.2.1 z.2.2.1 z.2.2.2 v_read v_taped v_size v_at v_sort v_place v_sign v_number v_fault v_wrongAt v_word v_marks v_notes v_inn_minutes v_inn_rooms v_inn_doors v_inn_things v_inn_dreams v_inn_sleepers v_inn_listeners v_inn_names v_w) := by
  intro sz
  refine ct_body (by decide) (Nat.le_of_ble_eq_true rfl) ?_
  intro p e s m args below meth c A ls hAe C hr hin hP hD hS hl
  have C : CX p s m args meth c cX12_sleeper RX12 3 E A := C
  have hl : lv_has ls 3 [(0, .ref h), (1, .int p0), (2, .int p1)] := hl
  have hx := C.1
  have hb := C.2.1
  rw [hAe]
  clear hAe
  obtain ⟨Q, hQ⟩ : ∃ Q, Q = MQ below (Qi E A (z.1) (wX12_sleeper E h h_inn h_tape h_far h_from h_real h_other h_kept h_set h_w h_book h_noteSort h_whose h_what h_noteIs h_fitting h_dawn h_likes h_walked h_came h_inn_creak h_inn_doorA h_inn_doorB h_inn_how h_inn_lies h_inn_isCold h_inn_falls h_inn_isFull h_inn_isTold h_inn_act h_inn_what h_inn_then h_inn_met h_inn_bed h_inn_dream h_inn_listens h_inn_name h_inn_nameSort h_inn_nameNumber z.2.1 z.2.2.1 z.2.2.2 v_read v_taped v_size v_at v_sort v_place v_sign v_number v_fault v_wrongAt v_word v_marks v_notes v_inn_minutes v_inn_rooms v_inn_doors v_inn_things v_inn_dreams v_inn_sleepers v_inn_listeners v_inn_names v_w)) args s 0 0 A := ⟨_, rfl⟩
  rw [← hQ]
  unfold fX12_sleeper at hf
  refine lv_aload_n (pc := 0) hx hb dX12_sleeper_0 rfl (lv_at hl 0 rfl) ?_
  refine lv_iconst (pc := 1) (v := 0) hx hb dX12_sleeper_1 (by decide) ?_
  refine r_put (pc := 2) (ws' := (wX12_sleeper E h h_inn h_tape h_far h_from h_real h_other h_kept h_set h_w h_book h_noteSort h_whose h_what h_noteIs h_fitting h_dawn h_likes h_walked h_came h_inn_creak h_inn_doorA h_inn_doorB h_inn_how h_inn_lies h_inn_isCold h_inn_falls h_inn_isFull h_inn_isTold h_inn_act h_inn_what h_inn_then h_inn_met h_inn_bed h_inn_dream h_inn_listens h_inn_name h_inn_nameSort h_inn_nameNumber 0 v_trouble v_where v_read v_taped v_size v_at v_sort v_place v_sign v_number v_fault v_wrongAt v_word v_marks v_notes v_inn_minutes v_inn_rooms v_inn_doors v_inn_things v_inn_dreams v_inn_sleepers v_inn_listeners v_inn_names v_w)) C hP hD hS 0 rfl fl_X12_71 rfl rfl (Nat.le_of_ble_eq_true rfl) rfl dX12_sleeper_2 ?_
  clear hP hD hS; intro H locs hP hD hS
  refine lv_aload_n (pc := 5) hx hb dX12_sleeper_5 rfl (lv_at hl 0 rfl) ?_
  refine lv_iload_n (pc := 6) hx hb dX12_sleeper_6 rfl (lv_at hl 1 rfl) ?_
  obtain ⟨r_7, hc_7, hf⟩ := bd1 hf
  refine r_dalVi (pc := 7) (ws' := (wX12_sleeper E h h_inn h_tape h_far h_from h_real h_other h_kept h_set h_w h_book h_noteSort h_whose h_what h_noteIs h_fitting h_dawn h_likes h_walked h_came h_inn_creak h_inn_doorA h_inn_doorB h_inn_how h_inn_lies h_inn_isCold h_inn_falls h_inn_isFull h_inn_isTold h_inn_act h_inn_what h_inn_then h_inn_met h_inn_bed h_inn_dream h_inn_listens h_inn_name h_inn_nameSort h_inn_nameNumber 0 v_trouble v_where v_read v_taped v_size v_at v_sort v_place v_sign v_number v_fault v_wrongAt v_word v_marks v_notes v_inn_minutes v_inn_rooms v_inn_doors v_inn_things v_inn_dreams v_inn_sleepers v_inn_listeners v_inn_names v_w)) (As := [.int p0]) (rest := []) C (ctX12_isSleeper l E h h_inn h_tape h_far h_from h_real h_other h_kept h_set h_w h_book h_noteSort h_whose h_what h_noteIs h_fitting h_dawn h_likes h_walked h_came h_inn_creak h_inn_doorA h_inn_doorB h_inn_how h_inn_lies h_inn_isCold h_inn_falls h_inn_isFull h_inn_isTold h_inn_act h_inn_what h_inn_then h_inn_met h_inn_bed h_inn_dream h_inn_listens h_inn_name h_inn_nameSort h_inn_nameNumber 0 v_trouble v_where v_read v_taped v_size v_at v_sort v_place v_sign v_number v_fault v_wrongAt v_word v_marks v_notes v_inn_minutes v_inn_rooms v_inn_doors v_inn_things v_inn_dreams v_inn_sleepers v_inn_listeners v_inn_names N p0 r_7 hc_7) ml_X12_421 ⟨Nat.le_of_ble_eq_true rfl, Nat.le_of_ble_eq_true rfl⟩ hP hD hS 0 rfl rfl rfl [0, 1] [3, 4, 2] 3 rfl rfl rfl rfl rfl rfl rfl hl.1 rfl (Nat.le_of_ble_eq_true rfl) ⟨Nat.zero_le _, Nat.zero_le _⟩ dX12_sleeper_7 ?_
  clear hP hD hS; intro H locs hP hD hS
  refine lv_if_eq (pc := 10) (tgt := 22) hx hb dX12_sleeper_10 (by decide) (fun c_10 => ?_) (fun c_10 => ?_)
  · replace hf := it_t c_10 hf
    refine lv_aload_n (pc := 22) hx hb dX12_sleeper_22 rfl (lv_at hl 0 rfl) ?_
    refine lv_iconst (pc := 23) (v := 1) hx hb dX12_sleeper_23 (by decide) ?_
    obtain ⟨r_24, v_trouble_24, v_where_24, hc_24, hf⟩ := bd3 hf
    refine r_dalVi (pc := 24) (ws' := (wX12_sleeper E h h_inn h_tape h_far h_from h_real h_other h_kept h_set h_w h_book h_noteSort h_whose h_what h_noteIs h_fitting h_dawn h_likes h_walked h_came h_inn_creak h_inn_doorA h_inn_doorB h_inn_how h_inn_lies h_inn_isCold h_inn_falls h_inn_isFull h_inn_isTold h_inn_act h_inn_what h_inn_then h_inn_met h_inn_bed h_inn_dream h_inn_listens h_inn_name h_inn_nameSort h_inn_nameNumber 0 v_trouble_24 v_where_24 v_read v_taped v_size v_at v_sort v_place v_sign v_number v_fault v_wrongAt v_word v_marks v_notes v_inn_minutes v_inn_rooms v_inn_doors v_inn_things v_inn_dreams v_inn_sleepers v_inn_listeners v_inn_names v_w)) (As := [.int 1]) (rest := []) C (ctX12_refused l E h h_tape h_far h_from h_real h_other h_kept h_set h_w h_book h_noteSort h_whose h_what h_noteIs h_fitting h_dawn h_likes h_walked h_came 0 v_trouble v_where (some h_inn) v_read v_taped v_size v_at v_sort v_place v_sign v_number v_fault v_wrongAt v_word v_marks v_notes N 1 (r_24, v_trouble_24, v_where_24) hc_24) ml_X12_77 ⟨Nat.le_of_ble_eq_true rfl, Nat.le_of_ble_eq_true rfl⟩ hP hD hS 0 rfl rfl rfl [0] [3, 1, 2] 3 rfl rfl rfl rfl rfl rfl rfl hl.1 rfl (Nat.le_of_ble_eq_true rfl) ⟨Nat.zero_le _, Nat.zero_le _⟩ dX12_sleeper_24 ?_
    clear hP hD hS; intro H locs hP hD hS
    cases hf
    rw [hQ]
    exact r_iret C hr hP hD hS rfl dX12_sleeper_27
  · replace hf := it_f c_10 hf
    refine lv_iload_n (pc := 13) hx hb dX12_sleeper_13 rfl (lv_at hl 2 rfl) ?_
    refine lv_iconst (pc := 14) (v := 0) hx hb dX12_sleeper_14 (by decide) ?_
    refine lv_iconst (pc := 15) (v := 4) hx hb dX12_sleeper_15 (by decide) ?_
    obtain ⟨r_16, hc_16, hf⟩ := bd1 hf
    refine r_dalSi (pc := 16) (Cn := "") (h := 0) (ws' := (wX12_sleeper E h h_inn h_tape h_far h_from h_real h_other h_kept h_set h_w h_book h_noteSort h_whose h_what h_noteIs h_fitting h_dawn h_likes h_walked h_came h_inn_creak h_inn_doorA h_inn_doorB h_inn_how h_inn_lies h_inn_isCold h_inn_falls h_inn_isFull h_inn_isTold h_inn_act h_inn_what h_inn_then h_inn_met h_inn_bed h_inn_dream h_inn_listens h_inn_name h_inn_nameSort h_inn_nameNumber 0 v_trouble v_where v_read v_taped v_size v_at v_sort v_place v_sign v_number v_fault v_wrongAt v_word v_marks v_notes v_inn_minutes v_inn_rooms v_inn_doors v_inn_things v_inn_dreams v_inn_sleepers v_inn_listeners v_inn_names v_w)) (As := [.int p1, .int 0, .int 4]) (rest := []) C (ctX12_in l E N p1 0 4 r_16 hc_16) ml_X12_149 ⟨Nat.le_of_ble_eq_true rfl, Nat.le_of_ble_eq_true rfl⟩ hP hD hS [] [0, 1, 2] 3 rfl rfl rfl rfl rfl rfl rfl hl.1 rfl (Nat.le_of_ble_eq_true rfl) ⟨Nat.zero_le _, Nat.zero_le _⟩ dX12_sleeper_16 ?_
    clear hP hD hS; intro H locs hP hD hS
    refine lv_if_ne (pc := 19) (tgt := 28) hx hb dX12_sleeper_19 (by decide) (fun c_19 => ?_) (fun c_19 => ?_)
    · replace hf := it_f c_19 hf
      refine lv_aload_n (pc := 28) hx hb dX12_sleeper_28 rfl (lv_at hl 0 rfl) ?_
      refine lv_aload_n (pc := 29) hx hb dX12_sleeper_29 rfl (lv_at hl 0 rfl) ?_
      refine r_get (pc := 30) C hP 0 rfl fl_X12_36 rfl dX12_sleeper_30 ?_
      refine lv_iload_n (pc := 33) hx hb dX12_sleeper_33 rfl (lv_at hl 2 rfl) ?_
      refine jnK hf (fun j72 ej72 hf => ?_)
      have hj72 : ∀ (x72_s2 : Int32) , j72 x72_s2 = some z → AT p l e (rmOf 1 22) s m args below meth c E A Q 0 0 3 [(1, .int p0)] (wX12_sleeper E h h_inn h_tape h_far h_from h_real h_other h_kept h_set h_w h_book h_noteSort h_whose h_what h_noteIs h_fitting h_dawn h_likes h_walked h_came h_inn_creak h_inn_doorA h_inn_doorB h_inn_how h_inn_lies h_inn_isCold h_inn_falls h_inn_isFull h_inn_isTold h_inn_act h_inn_what h_inn_then h_inn_met h_inn_bed h_inn_dream h_inn_listens h_inn_name h_inn_nameSort h_inn_nameNumber 0 v_trouble v_where v_read v_taped v_size v_at v_sort v_place v_sign v_number v_fault v_wrongAt v_word v_marks v_notes v_inn_minutes v_inn_rooms v_inn_doors v_inn_things v_inn_dreams v_inn_sleepers v_inn_listeners v_inn_names v_w) 72 [.int x72_s2, .ref h_w, .ref h] := by
        intro x72_s2 hf H locs ls hl hP hD hS
        rw [ej72] at hf
        replace hf := un1_s hf
        refine lv_iload_n (pc := 72) hx hb dX12_sleeper_72 rfl (lv_at hl 0 rfl) ?_
        refine lv_iadd (pc := 73) hx hb dX12_sleeper_73 ?_
        obtain ⟨hi_74, hf⟩ := gd_s hf
        refine r_iald (pc := 74) C hP 2 rfl hi_74 dX12_sleeper_74 ?_
        obtain ⟨r_75, v_trouble_75, v_where_75, hc_75, hf⟩ := bd3 hf
        refine r_dalVi (pc := 75) (ws' := (wX12_sleeper E h h_inn h_tape h_far h_from h_real h_other h_kept h_set h_w h_book h_noteSort h_whose h_what h_noteIs h_fitting h_dawn h_likes h_walked h_came h_inn_creak h_inn_doorA h_inn_doorB h_inn_how h_inn_lies h_inn_isCold h_inn_falls h_inn_isFull h_inn_isTold h_inn_act h_inn_what h_inn_then h_inn_met h_inn_bed h_inn_dream h_inn_listens h_inn_name h_inn_nameSort h_inn_nameNumber 0 v_trouble_75 v_where_75 v_read v_taped v_size v_at v_sort v_place v_sign v_number v_fault v_wrongAt v_word v_marks v_notes v_inn_minutes v_inn_rooms v_inn_doors v_inn_things v_inn_dreams v_inn_sleepers v_inn_listeners v_inn_names v_w)) (As := [.int (v_w (x72_s2 + p0).toNatClampNeg)]) (rest := []) C (ctX12_good l E h h_tape h_far h_from h_real h_other h_kept h_set h_w h_book h_noteSort h_whose h_what h_noteIs h_fitting h_dawn h_likes h_walked h_came 0 v_trouble v_where (some h_inn) v_read v_taped v_size v_at v_sort v_place v_sign v_number v_fault v_wrongAt v_word v_marks v_notes N (v_w (x72_s2 + p0).toNatClampNeg) (r_75, v_trouble_75, v_where_75) hc_75) ml_X12_81 ⟨Nat.le_of_ble_eq_true rfl, Nat.le_of_ble_eq_true rfl⟩ hP hD hS 0 rfl rfl rfl [0] [3, 1, 2] 3 rfl rfl rfl rfl rfl rfl rfl hl.1 rfl (Nat.le_of_ble_eq_true rfl) ⟨Nat.zero_le _, Nat.zero_le _⟩ dX12_sleeper_75 ?_
        clear hP hD hS; intro H locs hP hD hS
        cases hf
        rw [hQ]
        exact r_iret C hr hP hD hS rfl dX12_sleeper_78
      clear ej72
      refine lv_if_ne (pc := 34) (tgt := 41) hx hb dX12_sleeper_34 (by decide) (fun c_34 => ?_) (fun c_34 => ?_)
      · replace hf := it_f c_34 hf
        refine lv_iload_n (pc := 41) hx hb dX12_sleeper_41 rfl (lv_at hl 2 rfl) ?_
        refine lv_iconst (pc := 42) (v := 1) hx hb dX12_sleeper_42 (by decide) ?_
        refine lv_icmp_ne (pc := 43) (tgt := 50) hx hb dX12_sleeper_43 (by decide) (fun c_43 => ?_) (fun c_43 => ?_)
        · replace hf := it_f c_43 hf
          refine lv_iload_n (pc := 50) hx hb dX12_sleeper_50 rfl (lv_at hl 2 rfl) ?_
          refine lv_iconst (pc := 51) (v := 2) hx hb dX12_sleeper_51 (by decide) ?_
          refine lv_icmp_ne (pc := 52) (tgt := 60) hx hb dX12_sleeper_52 (by decide) (fun c_52 => ?_) (fun c_52 => ?_)
          · replace hf := it_f c_52 hf
            refine lv_iload_n (pc := 60) hx hb dX12_sleeper_60 rfl (lv_at hl 2 rfl) ?_
            refine lv_iconst (pc := 61) (v := 3) hx hb dX12_sleeper_61 (by decide) ?_
            refine lv_icmp_ne (pc := 62) (tgt := 70) hx hb dX12_sleeper_62 (by decide) (fun c_62 => ?_) (fun c_62 => ?_)
            · replace hf := it_f c_62 hf
              refine lv_bipush (pc := 70) (v := 12) hx hb dX12_sleeper_70 (by decide) ?_
              exact hj72 12 hf _ _ _ (lv_sub hl [1] rfl) hP hD hS
            · replace hf := it_t c_62 hf
              refine lv_bipush (pc := 65) (v := 9) hx hb dX12_sleeper_65 (by decide) ?_
              refine lv_goto (pc := 67) (tgt := 72) hx hb dX12_sleeper_67 (by decide) ?_
              exact hj72 9 hf _ _ _ (lv_sub hl [1] rfl) hP hD hS
          · replace hf := it_t c_52 hf
            refine lv_bipush (pc := 55) (v := 6) hx hb dX12_sleeper_55 (by decide) ?_
            refine lv_goto (pc := 57) (tgt := 72) hx hb dX12_sleeper_57 (by decide) ?_
            exact hj72 6 hf _ _ _ (lv_sub hl [1] rfl) hP hD hS
        · replace hf := it_t c_43 hf
          refine lv_iconst (pc := 46) (v := 3) hx hb dX12_sleeper_46 (by decide) ?_
          refine lv_goto (pc := 47) (tgt := 72) hx hb dX12_sleeper_47 (by decide) ?_
          exact hj72 3 hf _ _ _ (lv_sub hl [1] rfl) hP hD hS
      · replace hf := it_t c_34 hf
        refine lv_iconst (pc := 37) (v := 0) hx hb dX12_sleeper_37 (by decide) ?_
        refine lv_goto (pc := 38) (tgt := 72) hx hb dX12_sleeper_38 (by decide) ?_
        exact hj72 0 hf _ _ _ (lv_sub hl [1] rfl) hP hD hS
    · replace hf := it_t c_19 hf
      refine lv_aload_n (pc := 22) hx hb dX12_sleeper_22 rfl (lv_at hl 0 rfl) ?_
      refine lv_iconst (pc := 23) (v := 1) hx hb dX12_sleeper_23 (by decide) ?_
      obtain ⟨r_24, v_trouble_24, v_where_24, hc_24, hf⟩ := bd3 hf
      refine r_dalVi (pc := 24) (ws' := (wX12_sleeper E h h_inn h_tape h_far h_from h_real h_other h_kept h_set h_w h_book h_noteSort h_whose h_what h_noteIs h_fitting h_dawn h_likes h_walked h_came h_inn_creak h_inn_doorA h_inn_doorB h_inn_how h_inn_lies h_inn_isCold h_inn_falls h_inn_isFull h_inn_isTold h_inn_act h_inn_what h_inn_then h_inn_met h_inn_bed h_inn_dream h_inn_listens h_inn_name h_inn_nameSort h_inn_nameNumber 0 v_trouble_24 v_where_24 v_read v_taped v_size v_at v_sort v_place v_sign v_number v_fault v_wrongAt v_word v_marks v_notes v_inn_minutes v_inn_rooms v_inn_doors v_inn_things v_inn_dreams v_inn_sleepers v_inn_listeners v_inn_names v_w)) (As := [.int 1]) (rest := []) C (ctX12_refused l E h h_tape h_far h_from h_real h_other h_kept h_set h_w h_book h_noteSort h_whose h_what h_noteIs h_fitting h_dawn h_likes h_walked h_came 0 v_trouble v_where (some h_inn) v_read v_taped v_size v_at v_sort v_place v_sign v_number v_fault v_wrongAt v_word v_marks v_notes N 1 (r_24, v_trouble_24, v_where_24) hc_24) ml_X12_77 ⟨Nat.le_of_ble_eq_true rfl, Nat.le_of_ble_eq_true rfl⟩ hP hD hS 0 rfl rfl rfl [0] [3, 1, 2] 3 rfl rfl rfl rfl rfl rfl rfl hl.1 rfl (Nat.le_of_ble_eq_true rfl) ⟨Nat.zero_le _, Nat.zero_le _⟩ dX12_sleeper_24 ?_
      clear hP hD hS; intro H locs hP hD hS
      cases hf
      rw [hQ]
      exact r_iret C hr hP hD hS rfl dX12_sleeper_27
def wX12_sleeper0 (E : EN) (h h_tape h_far h_from h_real h_other h_kept h_set h_w h_book h_noteSort h_whose h_what h_noteIs h_fitting h_dawn h_likes h_walked h_came : Nat) (v_thrown : Int32) (v_trouble : Int32) (v_where : Int32) (v_read : Option Nat) (v_taped : Int32) (v_size : Int32) (v_at : Int32) (v_sort : Int32) (v_place : Int32) (v_sign : Int32) (v_number : Int32) (v_fault : Int32) (v_wrongAt : Int32) (v_word : Int64) (v_marks : Int32) (v_notes : Int32) (v_w : Nat → Int32) : va_W := [(h, .inr (11, [.int v_thrown, .int v_trouble, .int v_where, .null, va_rf v_read, .ref h_tape, .int v_taped, .int v_size, .int v_at, .int v_sort, .int v_place, .int v_sign, .int v_number, .int v_fault, .int v_wrongAt, .long v_word, .ref h_far, .ref h_from, .ref h_real, .ref h_other, .ref h_kept, .ref h_set, .ref h_w, .int v_marks, .int v_notes, .ref h_book, .ref h_noteSort, .ref h_whose, .ref h_what, .ref h_noteIs, .ref h_fitting, .ref h_dawn, .ref h_likes, .ref h_walked, .ref h_came])), (h_w, aI E 51 v_w)]
def fX12_sleeper0 (N : Nat) (p0 : Int32) (p1 : Int32) (v_w : Nat → Int32) : Option (Int32 × Int32 × Int32 × Int32) := (fX12_isSleeper0 N).bind (un1 fun (r_7 : Int32) => if r_7 = 0 then ((fX12_refused N 1).bind (un3 fun (r_24 : Int32) (v_trouble_24 : Int32) (v_where_24 : Int32) => some (r_24, 0, v_trouble_24, v_where_24))) else ((fX12_in N p1 0 4).bind (un1 fun (r_16 : Int32) => if r_16 = 0 then ((fX12_refused N 1).bind (un3 fun (r_24 : Int32) (v_trouble_24 : Int32) (v_where_24 : Int32) => some (r_24, 0, v_trouble_24, v_where_24))) else (jn (un1 fun (x72_s2 : Int32) => gd (x72_s2 + p0) 51 ((fX12_good N (v_w (x72_s2 + p0).toNatClampNeg)).bind (un3 fun (r_75 : Int32) (v_trouble_75 : Int32) (v_where_75 : Int32) => some (r_75, 0, v_trouble_75, v_where_75)))) (fun j72 => if p1 = 0 then (j72 0) else (if p1 = 1 then (j72 3) else (if p1 = 2 then (j72 6) else (if p1 = 3 then (j72 9) else (j72 12)))))))))
set_option maxHeartbeats 4000000 in
set_option maxRecDepth 100000 in
theorem ctX12_sleeper0 (l : Launch) (E : EN) (h h_tape h_far h_from h_real h_other h_kept h_set h_w h_book h_noteSort h_whose h_what h_noteIs h_fitting h_dawn h_likes h_walked h_came : Nat) (v_thrown : Int32) (v_trouble : Int32) (v_where : Int32) (v_read : Option Nat) (v_taped : Int32) (v_size : Int32) (v_at : Int32) (v_sort : Int32) (v_place : Int32) (v_sign : Int32) (v_number : Int32) (v_fault : Int32) (v_wrongAt : Int32) (v_word : Int64) (v_marks : Int32) (v_notes : Int32) (v_w : Nat → Int32) (N : Nat) (p0 : Int32) (p1 : Int32) (z : Int32 × Int32 × Int32 × Int32) (hf : fX12_sleeper0 N p0 p1 v_w = some z) : CTi l E yX12_sleeper cX12_sleeper 3 .int 1 22 [.ref h, .int p0, .int p1] (wX12_sleeper0 E h h_tape h_far h_from h_real h_other h_kept h_set h_w h_book h_noteSort h_whose h_what h_noteIs h_fitting h_dawn h_likes h_walked h_came v_thrown v_trouble v_where v_read v_taped v_size v_at v_sort v_place v_sign v_number v_fault v_wrongAt v_word v_marks v_notes v_w) (z.1) (wX12_sleeper0 E h h_tape h_far h_from h_real h_other h_kept h_set h_w h_book h_noteSort h_whose h_what h_noteIs h_fitting h_dawn h_likes h_walked h_came z.2.1 z.2.2.1 z.2.2.2 v_read v_taped v_size v_at v_sort v_place v_sign v_number v_fault v_wrongAt v_word v_marks v_notes v_w) := by
  intro sz
  refine ct_body (by decide) (Nat.le_of_ble_eq_true rfl) ?_
  intro p e s m args below meth c A ls hAe C hr hin hP hD hS hl
  have C : CX p s m args meth c cX12_sleeper RX12 3 E A := C
  have hl : lv_has ls 3 [(0, .ref h), (1, .int p0), (2, .int p1)] := hl
  have hx := C.1
  have hb := C.2.1
  rw [hAe]
  clear hAe
  obtain ⟨Q, hQ⟩ : ∃ Q, Q = MQ below (Qi E A (z.1) (wX12_sleeper0 E h h_tape h_far h_from h_real h_other h_kept h_set h_w h_book h_noteSort h_whose h_what h_noteIs h_fitting h_dawn h_likes h_walked h_came z.2.1 z.2.2.1 z.2.2.2 v_read v_taped v_size v_at v_sort v_place v_sign v_number v_fault v_wrongAt v_word v_marks v_notes v_w)) args s 0 0 A := ⟨_, rfl⟩
  rw [← hQ]
  unfold fX12_sleeper0 at hf
  refine lv_aload_n (pc := 0) hx hb dX12_sleeper_0 rfl (lv_at hl 0 rfl) ?_
  refine lv_iconst (pc := 1) (v := 0) hx hb dX12_sleeper_1 (by decide) ?_
  refine r_put (pc := 2) (ws' := (wX12_sleeper0 E h h_tape h_far h_from h_real h_other h_kept h_set h_w h_book h_noteSort h_whose h_what h_noteIs h_fitting h_dawn h_likes h_walked h_came 0 v_trouble v_where v_read v_taped v_size v_at v_sort v_place v_sign v_number v_fault v_wrongAt v_word v_marks v_notes v_w)) C hP hD hS 0 rfl fl_X12_71 rfl rfl (Nat.le_of_ble_eq_true rfl) rfl dX12_sleeper_2 ?_
  clear hP hD hS; intro H locs hP hD hS
  refine lv_aload_n (pc := 5) hx hb dX12_sleeper_5 rfl (lv_at hl 0 rfl) ?_
  refine lv_iload_n (pc := 6) hx hb dX12_sleeper_6 rfl (lv_at hl 1 rfl) ?_
  obtain ⟨r_7, hc_7, hf⟩ := bd1 hf
  refine r_dalVi (pc := 7) (ws' := (wX12_sleeper0 E h h_tape h_far h_from h_real h_other h_kept h_set h_w h_book h_noteSort h_whose h_what h_noteIs h_fitting h_dawn h_likes h_walked h_came 0 v_trouble v_where v_read v_taped v_size v_at v_sort v_place v_sign v_number v_fault v_wrongAt v_word v_marks v_notes v_w)) (As := [.int p0]) (rest := []) C (ctX12_isSleeper0 l E h h_tape h_far h_from h_real h_other h_kept h_set h_w h_book h_noteSort h_whose h_what h_noteIs h_fitting h_dawn h_likes h_walked h_came 0 v_trouble v_where v_read v_taped v_size v_at v_sort v_place v_sign v_number v_fault v_wrongAt v_word v_marks v_notes N p0 r_7 hc_7) ml_X12_421 ⟨Nat.le_of_ble_eq_true rfl, Nat.le_of_ble_eq_true rfl⟩ hP hD hS 0 rfl rfl rfl [0] [2, 1] 2 rfl rfl rfl rfl rfl rfl rfl hl.1 rfl (Nat.le_of_ble_eq_true rfl) ⟨Nat.zero_le _, Nat.zero_le _⟩ dX12_sleeper_7 ?_
  clear hP hD hS; intro H locs hP hD hS
  refine lv_if_eq (pc := 10) (tgt := 22) hx hb dX12_sleeper_10 (by decide) (fun c_10 => ?_) (fun c_10 => ?_)
  · replace hf := it_t c_10 hf
    refine lv_aload_n (pc := 22) hx hb dX12_sleeper_22 rfl (lv_at hl 0 rfl) ?_
    refine lv_iconst (pc := 23) (v := 1) hx hb dX12_sleeper_23 (by decide) ?_
    obtain ⟨r_24, v_trouble_24, v_where_24, hc_24, hf⟩ := bd3 hf
    refine r_dalVi (pc := 24) (ws' := (wX12_sleeper0 E h h_tape h_far h_from h_real h_other h_kept h_set h_w h_book h_noteSort h_whose h_what h_noteIs h_fitting h_dawn h_likes h_walked h_came 0 v_trouble_24 v_where_24 v_read v_taped v_size v_at v_sort v_place v_sign v_number v_fault v_wrongAt v_word v_marks v_notes v_w)) (As := [.int 1]) (rest := []) C (ctX12_refused l E h h_tape h_far h_from h_real h_other h_kept h_set h_w h_book h_noteSort h_whose h_what h_noteIs h_fitting h_dawn h_likes h_walked h_came 0 v_trouble v_where none v_read v_taped v_size v_at v_sort v_place v_sign v_number v_fault v_wrongAt v_word v_marks v_notes N 1 (r_24, v_trouble_24, v_where_24) hc_24) ml_X12_77 ⟨Nat.le_of_ble_eq_true rfl, Nat.le_of_ble_eq_true rfl⟩ hP hD hS 0 rfl rfl rfl [0] [2, 1] 2 rfl rfl rfl rfl rfl rfl rfl hl.1 rfl (Nat.le_of_ble_eq_true rfl) ⟨Nat.zero_le _, Nat.zero_le _⟩ dX12_sleeper_24 ?_
    clear hP hD hS; intro H locs hP hD hS
    cases hf
    rw [hQ]
    exact r_iret C hr hP hD hS rfl dX12_sleeper_27
  · replace hf := it_f c_10 hf
    refine lv_iload_n (pc := 13) hx hb dX12_sleeper_13 rfl (lv_at hl 2 rfl) ?_
    refine lv_iconst (pc := 14) (v := 0) hx hb dX12_sleeper_14 (by decide) ?_
    refine lv_iconst (pc := 15) (v := 4) hx hb dX12_sleeper_15 (by decide) ?_
    obtain ⟨r_16, hc_16, hf⟩ := bd1 hf
    refine r_dalSi (pc := 16) (Cn := "") (h := 0) (ws' := (wX12_sleeper0 E h h_tape h_far h_from h_real h_other h_kept h_set h_w h_book h_noteSort h_whose h_what h_noteIs h_fitting h_dawn h_likes h_walked h_came 0 v_trouble v_where v_read v_taped v_size v_at v_sort v_place v_sign v_number v_fault v_wrongAt v_word v_marks v_notes v_w)) (As := [.int p1, .int 0, .int 4]) (rest := []) C (ctX12_in l E N p1 0 4 r_16 hc_16) ml_X12_149 ⟨Nat.le_of_ble_eq_true rfl, Nat.le_of_ble_eq_true rfl⟩ hP hD hS [] [0, 1] 2 rfl rfl rfl rfl rfl rfl rfl hl.1 rfl (Nat.le_of_ble_eq_true rfl) ⟨Nat.zero_le _, Nat.zero_le _⟩ dX12_sleeper_16 ?_
    clear hP hD hS; intro H locs hP hD hS
    refine lv_if_ne (pc := 19) (tgt := 28) hx hb dX12_sleeper_19 (by decide) (fun c_19 => ?_) (fun c_19 => ?_)
    · replace hf := it_f c_19 hf
      refine lv_aload_n (pc := 28) hx hb dX12_sleeper_28 rfl (lv_at hl 0 rfl) ?_
      refine lv_aload_n (pc := 29) hx hb dX12_sleeper_29 rfl (lv_at hl 0 rfl) ?_
      refine r_get (pc := 30) C hP 0 rfl fl_X12_36 rfl dX12_sleeper_30 ?_
      refine lv_iload_n (pc := 33) hx hb dX12_sleeper_33 rfl (lv_at hl 2 rfl) ?_
      refine jnK hf (fun j72 ej72 hf => ?_)
      have hj72 : ∀ (x72_s2 : Int32) , j72 x72_s2 = some z → AT p l e (rmOf 1 22) s m args below meth c E A Q 0 0 3 [(1, .int p0)] (wX12_sleeper0 E h h_tape h_far h_from h_real h_other h_kept h_set h_w h_book h_noteSort h_whose h_what h_noteIs h_fitting h_dawn h_likes h_walked h_came 0 v_trouble v_where v_read v_taped v_size v_at v_sort v_place v_sign v_number v_fault v_wrongAt v_word v_marks v_notes v_w) 72 [.int x72_s2, .ref h_w, .ref h] := by
        intro x72_s2 hf H locs ls hl hP hD hS
        rw [ej72] at hf
        replace hf := un1_s hf
        refine lv_iload_n (pc := 72) hx hb dX12_sleeper_72 rfl (lv_at hl 0 rfl) ?_
        refine lv_iadd (pc := 73) hx hb dX12_sleeper_73 ?_
        obtain ⟨hi_74, hf⟩ := gd_s hf
        refine r_iald (pc := 74) C hP 1 rfl hi_74 dX12_sleeper_74 ?_
        obtain ⟨r_75, v_trouble_75, v_where_75, hc_75, hf⟩ := bd3 hf
        refine r_dalVi (pc := 75) (ws' := (wX12_sleeper0 E h h_tape h_far h_from h_real h_other h_kept h_set h_w h_book h_noteSort h_whose h_what h_noteIs h_fitting h_dawn h_likes h_walked h_came 0 v_trouble_75 v_where_75 v_read v_taped v_size v_at v_sort v_place v_sign v_number v_fault v_wrongAt v_word v_marks v_notes v_w)) (As := [.int (v_w (x72_s2 + p0).toNatClampNeg)]) (rest := []) C (ctX12_good l E h h_tape h_far h_from h_real h_other h_kept h_set h_w h_book h_noteSort h_whose h_what h_noteIs h_fitting h_dawn h_likes h_walked h_came 0 v_trouble v_where none v_read v_taped v_size v_at v_sort v_place v_sign v_number v_fault v_wrongAt v_word v_marks v_notes N (v_w (x72_s2 + p0).toNatClampNeg) (r_75, v_trouble_75, v_where_75) hc_75) ml_X12_81 ⟨Nat.le_of_ble_eq_true rfl, Nat.le_of_ble_eq_true rfl⟩ hP hD hS 0 rfl rfl rfl [0] [2, 1] 2 rfl rfl rfl rfl rfl rfl rfl hl.1 rfl (Nat.le_of_ble_eq_true rfl) ⟨Nat.zero_le _, Nat.zero_le _⟩ dX12_sleeper_75 ?_
        clear hP hD hS; intro H locs hP hD hS
        cases hf
        rw [hQ]
        exact r_iret C hr hP hD hS rfl dX12_sleeper_78
      clear ej72
      refine lv_if_ne (pc := 34) (tgt := 41) hx hb dX12_sleeper_34 (by decide) (fun c_34 => ?_) (fun c_34 => ?_)
      · replace hf := it_f c_34 hf
        refine lv_iload_n (pc := 41) hx hb dX12_sleeper_41 rfl (lv_at hl 2 rfl) ?_
        refine lv_iconst (pc := 42) (v := 1) hx hb dX12_sleeper_42 (by decide) ?_
        refine lv_icmp_ne (pc := 43) (tgt := 50) hx hb dX12_sleeper_43 (by decide) (fun c_43 => ?_) (fun c_43 => ?_)
        · replace hf := it_f c_43 hf
          refine lv_iload_n (pc := 50) hx hb dX12_sleeper_50 rfl (lv_at hl 2 rfl) ?_
          refine lv_iconst (pc := 51) (v := 2) hx hb dX12_sleeper_51 (by decide) ?_
          refine lv_icmp_ne (pc := 52) (tgt := 60) hx hb dX12_sleeper_52 (by decide) (fun c_52 => ?_) (fun c_52 => ?_)
          · replace hf := it_f c_52 hf
            refine lv_iload_n (pc := 60) hx hb dX12_sleeper_60 rfl (lv_at hl 2 rfl) ?_
            refine lv_iconst (pc := 61) (v := 3) hx hb dX12_sleeper_61 (by decide) ?_
            refine lv_icmp_ne (pc := 62) (tgt := 70) hx hb dX12_sleeper_62 (by decide) (fun c_62 => ?_) (fun c_62 => ?_)
            · replace hf := it_f c_62 hf
              refine lv_bipush (pc := 70) (v := 12) hx hb dX12_sleeper_70 (by decide) ?_
              exact hj72 12 hf _ _ _ (lv_sub hl [1] rfl) hP hD hS
            · replace hf := it_t c_62 hf
              refine lv_bipush (pc := 65) (v := 9) hx hb dX12_sleeper_65 (by decide) ?_
              refine lv_goto (pc := 67) (tgt := 72) hx hb dX12_sleeper_67 (by decide) ?_
              exact hj72 9 hf _ _ _ (lv_sub hl [1] rfl) hP hD hS
          · replace hf := it_t c_52 hf
            refine lv_bipush (pc := 55) (v := 6) hx hb dX12_sleeper_55 (by decide) ?_
            refine lv_goto (pc := 57) (tgt := 72) hx hb dX12_sleeper_57 (by decide) ?_
            exact hj72 6 hf _ _ _ (lv_sub hl [1] rfl) hP hD hS
        · replace hf := it_t c_43 hf
          refine lv_iconst (pc := 46) (v := 3) hx hb dX12_sleeper_46 (by decide) ?_
          refine lv_goto (pc := 47) (tgt := 72) hx hb dX12_sleeper_47 (by decide) ?_
          exact hj72 3 hf _ _ _ (lv_sub hl [1] rfl) hP hD hS
      · replace hf := it_t c_34 hf
        refine lv_iconst (pc := 37) (v := 0) hx hb dX12_sleeper_37 (by decide) ?_
        refine lv_goto (pc := 38) (tgt := 72) hx hb dX12_sleeper_38 (by decide) ?_
        exact hj72 0 hf _ _ _ (lv_sub hl [1] rfl) hP hD hS
    · replace hf := it_t c_19 hf
      refine lv_aload_n (pc := 22) hx hb dX12_sleeper_22 rfl (lv_at hl 0 rfl) ?_
      refine lv_iconst (pc := 23) (v := 1) hx hb dX12_sleeper_23 (by decide) ?_
      obtain ⟨r_24, v_trouble_24, v_where_24, hc_24, hf⟩ := bd3 hf
      refine r_dalVi (pc := 24) (ws' := (wX12_sleeper0 E h h_tape h_far h_from h_real h_other h_kept h_set h_w h_book h_noteSort h_whose h_what h_noteIs h_fitting h_dawn h_likes h_walked h_came 0 v_trouble_24 v_where_24 v_read v_taped v_size v_at v_sort v_place v_sign v_number v_fault v_wrongAt v_word v_marks v_notes v_w)) (As := [.int 1]) (rest := []) C (ctX12_refused l E h h_tape h_far h_from h_real h_other h_kept h_set h_w h_book h_noteSort h_whose h_what h_noteIs h_fitting h_dawn h_likes h_walked h_came 0 v_trouble v_where none v_read v_taped v_size v_at v_sort v_place v_sign v_number v_fault v_wrongAt v_word v_marks v_notes N 1 (r_24, v_trouble_24, v_where_24) hc_24) ml_X12_77 ⟨Nat.le_of_ble_eq_true rfl, Nat.le_of_ble_eq_true rfl⟩ hP hD hS 0 rfl rfl rfl [0] [2, 1] 2 rfl rfl rfl rfl rfl rfl rfl hl.1 rfl (Nat.le_of_ble_eq_true rfl) ⟨Nat.zero_le _, Nat.zero_le _⟩ dX12_sleeper_24 ?_
      clear hP hD hS; intro H locs hP hD hS
      cases hf
      rw [hQ]
      exact r_iret C hr hP hD hS rfl dX12_sleeper_27
def wX12_isThing (E : EN) (h h_inn h_tape h_far h_from h_real h_other h_kept h_set h_w h_book h_noteSort h_whose h_what h_noteIs h_fitting h_dawn h_likes h_walked h_came h_inn_creak h_inn_doorA h_inn_doorB h_inn_how h_inn_lies h_inn_isCold h_inn_falls h_inn_isFull h_inn_isTold h_inn_act h_inn_what h_inn_then h_inn_met h_inn_bed h_inn_dream h_inn_listens h_inn_name h_inn_nameSort h_inn_nameNumber : Nat) (v_thrown : Int32) (v_trouble : Int32) (v_where : Int32) (v_read : Option Nat) (v_taped : Int32) (v_size : Int32) (v_at : Int32) (v_sort : Int32) (v_place : Int32) (v_sign : Int32) (v_number : Int32) (v_fault : Int32) (v_wrongAt : Int32) (v_word : Int64) (v_marks : Int32) (v_notes : Int32) (v_inn_minutes : Int32) (v_inn_rooms : Int32) (v_inn_doors : Int32) (v_inn_things : Int32) (v_inn_dreams : Int32) (v_inn_sleepers : Int32) (v_inn_listeners : Int32) (v_inn_names : Int32) : va_W := [(h, .inr (11, [.int v_thrown, .int v_trouble, .int v_where, .ref h_inn, va_rf v_read, .ref h_tape, .int v_taped, .int v_size, .int v_at, .int v_sort, .int v_place, .int v_sign, .int v_number, .int v_fault, .int v_wrongAt, .long v_word, .ref h_far, .ref h_from, .ref h_real, .ref h_other, .ref h_kept, .ref h_set, .ref h_w, .int v_marks, .int v_notes, .ref h_book, .ref h_noteSort, .ref h_whose, .ref h_what, .ref h_noteIs, .ref h_fitting, .ref h_dawn, .ref h_likes, .ref h_walked, .ref h_came])), (h_inn, .inr (10, [.int v_inn_minutes, .int v_inn_rooms, .int v_inn_doors, .int v_inn_things, .int v_inn_dreams, .int v_inn_sleepers, .int v_inn_listeners, .int v_inn_names, .ref h_inn_creak, .ref h_inn_doorA, .ref h_inn_doorB, .ref h_inn_how, .ref h_inn_lies, .ref h_inn_isCold, .ref h_inn_falls, .ref h_inn_isFull, .ref h_inn_isTold, .ref h_inn_act, .ref h_inn_what, .ref h_inn_then, .ref h_inn_met, .ref h_inn_bed, .ref h_inn_dream, .ref h_inn_listens, .ref h_inn_name, .ref h_inn_nameSort, .ref h_inn_nameNumber]))]
def fX12_isThing (N : Nat) (p0 : Int32) (v_inn_things : Int32) : Option Int32 := jn (un0 (some 0)) (fun j26 => if p0 < 0 then (j26 ()) else (if v_inn_things ≤ p0 then (j26 ()) else (some 1)))
set_option maxHeartbeats 4000000 in
set_option maxRecDepth 100000 in
theorem ctX12_isThing (l : Launch) (E : EN) (h h_inn h_tape h_far h_from h_real h_other h_kept h_set h_w h_book h_noteSort h_whose h_what h_noteIs h_fitting h_dawn h_likes h_walked h_came h_inn_creak h_inn_doorA h_inn_doorB h_inn_how h_inn_lies h_inn_isCold h_inn_falls h_inn_isFull h_inn_isTold h_inn_act h_inn_what h_inn_then h_inn_met h_inn_bed h_inn_dream h_inn_listens h_inn_name h_inn_nameSort h_inn_nameNumber : Nat) (v_thrown : Int32) (v_trouble : Int32) (v_where : Int32) (v_read : Option Nat) (v_taped : Int32) (v_size : Int32) (v_at : Int32) (v_sort : Int32) (v_place : Int32) (v_sign : Int32) (v_number : Int32) (v_fault : Int32) (v_wrongAt : Int32) (v_word : Int64) (v_marks : Int32) (v_notes : Int32) (v_inn_minutes : Int32) (v_inn_rooms : Int32) (v_inn_doors : Int32) (v_inn_things : Int32) (v_inn_dreams : Int32) (v_inn_sleepers : Int32) (v_inn_listeners : Int32) (v_inn_names : Int32) (N : Nat) (p0 : Int32) (z : Int32) (hf : fX12_isThing N p0 v_inn_things = some z) : CTi l E yX12_isThing cX12_isThing 2 .boolean 0 0 [.ref h, .int p0] (wX12_isThing E h h_inn h_tape h_far h_from h_real h_other h_kept h_set h_w h_book h_noteSort h_whose h_what h_noteIs h_fitting h_dawn h_likes h_walked h_came h_inn_creak h_inn_doorA h_inn_doorB h_inn_how h_inn_lies h_inn_isCold h_inn_falls h_inn_isFull h_inn_isTold h_inn_act h_inn_what h_inn_then h_inn_met h_inn_bed h_inn_dream h_inn_listens h_inn_name h_inn_nameSort h_inn_nameNumber v_thrown v_trouble v_where v_read v_taped v_size v_at v_sort v_place v_sign v_number v_fault v_wrongAt v_word v_marks v_notes v_inn_minutes v_inn_rooms v_inn_doors v_inn_things v_inn_dreams v_inn_sleepers v_inn_listeners v_inn_names) (z) (wX12_isThing E h h_inn h_tape h_far h_from h_real h_other h_kept h_set h_w h_book h_noteSort h_whose h_what h_noteIs h_fitting h_dawn h_likes h_walked h_came h_inn_creak h_inn_doorA h_inn_doorB h_inn_how h_inn_lies h_inn_isCold h_inn_falls h_inn_isFull h_inn_isTold h_inn_act h_inn_what h_inn_then h_inn_met h_inn_bed h_inn_dream h_inn_listens h_inn_name h_inn_nameSort h_inn_nameNumber v_thrown v_trouble v_where v_read v_taped v_size v_at v_sort v_place v_sign v_number v_fault v_wrongAt v_word v_marks v_notes v_inn_minutes v_inn_rooms v_inn_doors v_inn_things v_inn_dreams v_inn_sleepers v_inn_listeners v_inn_names) := by
  intro sz
  refine ct_body (by decide) (Nat.le_of_ble_eq_true rfl) ?_
  intro p e s m args below meth c A ls hAe C hr hin hP hD hS hl
  have C : CX p s m args meth c cX12_isThing RX12 2 E A := C
  have hl : lv_has ls 2 [(0, .ref h), (1, .int p0)] := hl
  have hx := C.1
  have hb := C.2.1
  rw [hAe]
  clear hAe
  obtain ⟨Q, hQ⟩ : ∃ Q, Q = MQ below (Qi E A (z) (wX12_isThing E h h_inn h_tape h_far h_from h_real h_other h_kept h_set h_w h_book h_noteSort h_whose h_what h_noteIs h_fitting h_dawn h_likes h_walked h_came h_inn_creak h_inn_doorA h_inn_doorB h_inn_how h_inn_lies h_inn_isCold h_inn_falls h_inn_isFull h_inn_isTold h_inn_act h_inn_what h_inn_then h_inn_met h_inn_bed h_inn_dream h_inn_listens h_inn_name h_inn_nameSort h_inn_nameNumber v_thrown v_trouble v_where v_read v_taped v_size v_at v_sort v_place v_sign v_number v_fault v_wrongAt v_word v_marks v_notes v_inn_minutes v_inn_rooms v_inn_doors v_inn_things v_inn_dreams v_inn_sleepers v_inn_listeners v_inn_names)) args s 0 0 A := ⟨_, rfl⟩
  rw [← hQ]
  unfold fX12_isThing at hf
  refine lv_aload_n (pc := 0) hx hb dX12_isThing_0 rfl (lv_at hl 0 rfl) ?_
  refine r_get (pc := 1) C hP 0 rfl fl_X12_358 rfl dX12_isThing_1 ?_
  refine jnK hf (fun j26 ej26 hf => ?_)
  have hj26 : j26 () = some z → AT p l e (rmOf 0 0) s m args below meth c E A Q 0 0 2 [] (wX12_isThing E h h_inn h_tape h_far h_from h_real h_other h_kept h_set h_w h_book h_noteSort h_whose h_what h_noteIs h_fitting h_dawn h_likes h_walked h_came h_inn_creak h_inn_doorA h_inn_doorB h_inn_how h_inn_lies h_inn_isCold h_inn_falls h_inn_isFull h_inn_isTold h_inn_act h_inn_what h_inn_then h_inn_met h_inn_bed h_inn_dream h_inn_listens h_inn_name h_inn_nameSort h_inn_nameNumber v_thrown v_trouble v_where v_read v_taped v_size v_at v_sort v_place v_sign v_number v_fault v_wrongAt v_word v_marks v_notes v_inn_minutes v_inn_rooms v_inn_doors v_inn_things v_inn_dreams v_inn_sleepers v_inn_listeners v_inn_names) 26 [] := by
    intro  hf H locs ls hl hP hD hS
    rw [ej26] at hf
    replace hf := un0_s hf
    refine lv_iconst (pc := 26) (v := 0) hx hb dX12_isThing_26 (by decide) ?_
    cases hf
    rw [hQ]
    exact r_zret C hr hP hD hS (Or.inl rfl) rfl dX12_isThing_27
  clear ej26
  refine lv_ifnull (pc := 4) hx hb dX12_isThing_4 ?_
  refine lv_iload_n (pc := 7) hx hb dX12_isThing_7 rfl (lv_at hl 1 rfl) ?_
  refine lv_if_lt (pc := 8) (tgt := 26) hx hb dX12_isThing_8 (by decide) (fun c_8 => ?_) (fun c_8 => ?_)
  · replace hf := it_t c_8 hf
    exact hj26  hf _ _ _ (lv_sub hl [] rfl) hP hD hS
  · replace hf := it_f c_8 hf
    refine lv_iload_n (pc := 11) hx hb dX12_isThing_11 rfl (lv_at hl 1 rfl) ?_
    refine lv_aload_n (pc := 12) hx hb dX12_isThing_12 rfl (lv_at hl 0 rfl) ?_
    refine r_get (pc := 13) C hP 0 rfl fl_X12_358 rfl dX12_isThing_13 ?_
    refine r_get (pc := 16) C hP 1 rfl fl_X12_315 rfl dX12_isThing_16 ?_
    refine lv_icmp_ge (pc := 19) (tgt := 26) hx hb dX12_isThing_19 (by decide) (fun c_19 => ?_) (fun c_19 => ?_)
    · replace hf := it_t c_19 hf
      exact hj26  hf _ _ _ (lv_sub hl [] rfl) hP hD hS
    · replace hf := it_f c_19 hf
      refine lv_iconst (pc := 22) (v := 1) hx hb dX12_isThing_22 (by decide) ?_
      refine lv_goto (pc := 23) (tgt := 27) hx hb dX12_isThing_23 (by decide) ?_
      cases hf
      rw [hQ]
      exact r_zret C hr hP hD hS (Or.inr rfl) rfl dX12_isThing_27
def wX12_isThing0 (E : EN) (h h_tape h_far h_from h_real h_other h_kept h_set h_w h_book h_noteSort h_whose h_what h_noteIs h_fitting h_dawn h_likes h_walked h_came : Nat) (v_thrown : Int32) (v_trouble : Int32) (v_where : Int32) (v_read : Option Nat) (v_taped : Int32) (v_size : Int32) (v_at : Int32) (v_sort : Int32) (v_place : Int32) (v_sign : Int32) (v_number : Int32) (v_fault : Int32) (v_wrongAt : Int32) (v_word : Int64) (v_marks : Int32) (v_notes : Int32) : va_W := [(h, .inr (11, [.int v_thrown, .int v_trouble, .int v_where, .null, va_rf v_read, .ref h_tape, .int v_taped, .int v_size, .int v_at, .int v_sort, .int v_place, .int v_sign, .int v_number, .int v_fault, .int v_wrongAt, .long v_word, .ref h_far, .ref h_from, .ref h_real, .ref h_other, .ref h_kept, .ref h_set, .ref h_w, .int v_marks, .int v_notes, .ref h_book, .ref h_noteSort, .ref h_whose, .ref h_what, .ref h_noteIs, .ref h_fitting, .ref h_dawn, .ref h_likes, .ref h_walked, .ref h_came]))]
def fX12_isThing0 (N : Nat) : Option Int32 := jn (un0 (some 0)) (fun j26 => j26 ())
set_option maxHeartbeats 4000000 in
set_option maxRecDepth 100000 in
theorem ctX12_isThing0 (l : Launch) (E : EN) (h h_tape h_far h_from h_real h_other h_kept h_set h_w h_book h_noteSort h_whose h_what h_noteIs h_fitting h_dawn h_likes h_walked h_came : Nat) (v_thrown : Int32) (v_trouble : Int32) (v_where : Int32) (v_read : Option Nat) (v_taped : Int32) (v_size : Int32) (v_at : Int32) (v_sort : Int32) (v_place : Int32) (v_sign : Int32) (v_number : Int32) (v_fault : Int32) (v_wrongAt : Int32) (v_word : Int64) (v_marks : Int32) (v_notes : Int32) (N : Nat) (p0 : Int32) (z : Int32) (hf : fX12_isThing0 N  = some z) : CTi l E yX12_isThing cX12_isThing 2 .boolean 0 0 [.ref h, .int p0] (wX12_isThing0 E h h_tape h_far h_from h_real h_other h_kept h_set h_w h_book h_noteSort h_whose h_what h_noteIs h_fitting h_dawn h_likes h_walked h_came v_thrown v_trouble v_where v_read v_taped v_size v_at v_sort v_place v_sign v_number v_fault v_wrongAt v_word v_marks v_notes) (z) (wX12_isThing0 E h h_tape h_far h_from h_real h_other h_kept h_set h_w h_book h_noteSort h_whose h_what h_noteIs h_fitting h_dawn h_likes h_walked h_came v_thrown v_trouble v_where v_read v_taped v_size v_at v_sort v_place v_sign v_number v_fault v_wrongAt v_word v_marks v_notes) := by
  intro sz
  refine ct_body (by decide) (Nat.le_of_ble_eq_true rfl) ?_
  intro p e s m args below meth c A ls hAe C hr hin hP hD hS hl
  have C : CX p s m args meth c cX12_isThing RX12 2 E A := C
  have hl : lv_has ls 2 [(0, .ref h), (1, .int p0)] := hl
  have hx := C.1
  have hb := C.2.1
  rw [hAe]
  clear hAe
  obtain ⟨Q, hQ⟩ : ∃ Q, Q = MQ below (Qi E A (z) (wX12_isThing0 E h h_tape h_far h_from h_real h_other h_kept h_set h_w h_book h_noteSort h_whose h_what h_noteIs h_fitting h_dawn h_likes h_walked h_came v_thrown v_trouble v_where v_read v_taped v_size v_at v_sort v_place v_sign v_number v_fault v_wrongAt v_word v_marks v_notes)) args s 0 0 A := ⟨_, rfl⟩
  rw [← hQ]
  unfold fX12_isThing0 at hf
  refine lv_aload_n (pc := 0) hx hb dX12_isThing_0 rfl (lv_at hl 0 rfl) ?_
  refine r_get (pc := 1) C hP 0 rfl fl_X12_358 rfl dX12_isThing_1 ?_
  refine jnK hf (fun j26 ej26 hf => ?_)
  have hj26 : j26 () = some z → AT p l e (rmOf 0 0) s m args below meth c E A Q 0 0 2 [] (wX12_isThing0 E h h_tape h_far h_from h_real h_other h_kept h_set h_w h_book h_noteSort h_whose h_what h_noteIs h_fitting h_dawn h_likes h_walked h_came v_thrown v_trouble v_where v_read v_taped v_size v_at v_sort v_place v_sign v_number v_fault v_wrongAt v_word v_marks v_notes) 26 [] := by
    intro  hf H locs ls hl hP hD hS
    rw [ej26] at hf
    replace hf := un0_s hf
    refine lv_iconst (pc := 26) (v := 0) hx hb dX12_isThing_26 (by decide) ?_
    cases hf
    rw [hQ]
    exact r_zret C hr hP hD hS (Or.inl rfl) rfl dX12_isThing_27
  clear ej26
  refine lv_ifnullN (pc := 4) (tgt := 26) hx hb dX12_isThing_4 (by decide) ?_
  exact hj26  hf _ _ _ (lv_sub hl [] rfl) hP hD hS
def wX12_thing (E : EN) (h h_inn h_tape h_far h_from h_real h_other h_kept h_set h_w h_book h_noteSort h_whose h_what h_noteIs h_fitting h_dawn h_likes h_walked h_came h_inn_creak h_inn_doorA h_inn_doorB h_inn_how h_inn_lies h_inn_isCold h_inn_falls h_inn_isFull h_inn_isTold h_inn_act h_inn_what h_inn_then h_inn_met h_inn_bed h_inn_dream h_inn_listens h_inn_name h_inn_nameSort h_inn_nameNumber : Nat) (v_thrown : Int32) (v_trouble : Int32) (v_where : Int32) (v_read : Option Nat) (v_taped : Int32) (v_size : Int32) (v_at : Int32) (v_sort : Int32) (v_place : Int32) (v_sign : Int32) (v_number : Int32) (v_fault : Int32) (v_wrongAt : Int32) (v_word : Int64) (v_marks : Int32) (v_notes : Int32) (v_inn_minutes : Int32) (v_inn_rooms : Int32) (v_inn_doors : Int32) (v_inn_things : Int32) (v_inn_dreams : Int32) (v_inn_sleepers : Int32) (v_inn_listeners : Int32) (v_inn_names : Int32) (v_w : Nat → Int32) : va_W := [(h, .inr (11, [.int v_thrown, .int v_trouble, .int v_where, .ref h_inn, va_rf v_read, .ref h_tape, .int v_taped, .int v_size, .int v_at, .int v_sort, .int v_place, .int v_sign, .int v_number, .int v_fault, .int v_wrongAt, .long v_word, .ref h_far, .ref h_from, .ref h_real, .ref h_other, .ref h_kept, .ref h_set, .ref h_w, .int v_marks, .int v_notes, .ref h_book, .ref h_noteSort, .ref h_whose, .ref h_what, .ref h_noteIs, .ref h_fitting, .ref h_dawn, .ref h_likes, .ref h_walked, .ref h_came])), (h_inn, .inr (10, [.int v_inn_minutes, .int v_inn_rooms, .int v_inn_doors, .int v_inn_things, .int v_inn_dreams, .int v_inn_sleepers, .int v_inn_listeners, .int v_inn_names, .ref h_inn_creak, .ref h_inn_doorA, .ref h_inn_doorB, .ref h_inn_how, .ref h_inn_lies, .ref h_inn_isCold, .ref h_inn_falls, .ref h_inn_isFull, .ref h_inn_isTold, .ref h_inn_act, .ref h_inn_what, .ref h_inn_then, .ref h_inn_met, .ref h_inn_bed, .ref h_inn_dream, .ref h_inn_listens, .ref h_inn_name, .ref h_inn_nameSort, .ref h_inn_nameNumber])), (h_w, aI E 51 v_w)]
def fX12_thing (N : Nat) (p0 : Int32) (p1 : Int32) (v_inn_things : Int32) (v_inn_sleepers : Int32) (v_w : Nat → Int32) : Option (Int32 × Int32 × Int32 × Int32) := (fX12_isThing N p0 v_inn_things).bind (un1 fun (r_7 : Int32) => if r_7 = 0 then ((fX12_refused N 1).bind (un3 fun (r_24 : Int32) (v_trouble_24 : Int32) (v_where_24 : Int32) => some (r_24, 0, v_trouble_24, v_where_24))) else ((fX12_in N p1 0 2).bind (un1 fun (r_16 : Int32) => if r_16 = 0 then ((fX12_refused N 1).bind (un3 fun (r_24 : Int32) (v_trouble_24 : Int32) (v_where_24 : Int32) => some (r_24, 0, v_trouble_24, v_where_24))) else (if p1 = 0 then (gd (15 + p0) 51 ((fX12_good N (v_w (15 + p0).toNatClampNeg)).bind (un3 fun (r_67 : Int32) (v_trouble_67 : Int32) (v_where_67 : Int32) => some (r_67, 0, v_trouble_67, v_where_67)))) else (if p1 = 1 then (gd (19 + p0) 51 ((fX12_good N (v_w (19 + p0).toNatClampNeg)).bind (un3 fun (r_67 : Int32) (v_trouble_67 : Int32) (v_where_67 : Int32) => some (r_67, 0, v_trouble_67, v_where_67)))) else ((fX12_holder N p0 v_inn_sleepers v_w).bind (un1 fun (r_64 : Int32) => (fX12_good N r_64).bind (un3 fun (r_67 : Int32) (v_trouble_67 : Int32) (v_where_67 : Int32) => some (r_67, 0, v_trouble_67, v_where_67)))))))))
set_option maxHeartbeats 4000000 in
set_option maxRecDepth 100000 in
theorem ctX12_thing (l : Launch) (E : EN) (h h_inn h_tape h_far h_from h_real h_other h_kept h_set h_w h_book h_noteSort h_whose h_what h_noteIs h_fitting h_dawn h_likes h_walked h_came h_inn_creak h_inn_doorA h_inn_doorB h_inn_how h_inn_lies h_inn_isCold h_inn_falls h_inn_isFull h_inn_isTold h_inn_act h_inn_what h_inn_then h_inn_met h_inn_bed h_inn_dream h_inn_listens h_inn_name h_inn_nameSort h_inn_nameNumber : Nat) (v_thrown : Int32) (v_trouble : Int32) (v_where : Int32) (v_read : Option Nat) (v_taped : Int32) (v_size : Int32) (v_at : Int32) (v_sort : Int32) (v_place : Int32) (v_sign : Int32) (v_number : Int32) (v_fault : Int32) (v_wrongAt : Int32) (v_word : Int64) (v_marks : Int32) (v_notes : Int32) (v_inn_minutes : Int32) (v_inn_rooms : Int32) (v_inn_doors : Int32) (v_inn_things : Int32) (v_inn_dreams : Int32) (v_inn_sleepers : Int32) (v_inn_listeners : Int32) (v_inn_names : Int32) (v_w : Nat → Int32) (N : Nat) (p0 : Int32) (p1 : Int32) (z : Int32 × Int32 × Int32 × Int32) (hf : fX12_thing N p0 p1 v_inn_things v_inn_sleepers v_w = some z) : CTi l E yX12_thing cX12_thing 3 .int 1 22 [.ref h, .int p0, .int p1] (wX12_thing E h h_inn h_tape h_far h_from h_real h_other h_kept h_set h_w h_book h_noteSort h_whose h_what h_noteIs h_fitting h_dawn h_likes h_walked h_came h_inn_creak h_inn_doorA h_inn_doorB h_inn_how h_inn_lies h_inn_isCold h_inn_falls h_inn_isFull h_inn_isTold h_inn_act h_inn_what h_inn_then h_inn_met h_inn_bed h_inn_dream h_inn_listens h_inn_name h_inn_nameSort h_inn_nameNumber v_thrown v_trouble v_where v_read v_taped v_size v_at v_sort v_place v_sign v_number v_fault v_wrongAt v_word v_marks v_notes v_inn_minutes v_inn_rooms v_inn_doors v_inn_things v_inn_dreams v_inn_sleepers v_inn_listeners v_inn_names v_w) (z.1) (wX12_thing E h h_inn h_tape h_far h_from h_real h_other h_kept h_set h_w h_book h_noteSort h_whose h_what h_noteIs h_fitting h_dawn h_likes h_walked h_came h_inn_creak h_inn_doorA h_inn_doorB h_inn_how h_inn_lies h_inn_isCold h_inn_falls h_inn_isFull h_inn_isTold h_inn_act h_inn_what h_inn_then h_inn_met h_inn_bed h_inn_dream h_inn_listens h_inn_name h_inn_nameSort h_inn_nameNumber z.2.1 z.2.2.1 z.2.2.2 v_read v_taped v_size v_at v_sort v_place v_sign v_number v_fault v_wrongAt v_word v_marks v_notes v_inn_minutes v_inn_rooms v_inn_doors v_inn_things v_inn_dreams v_inn_sleepers v_inn_listeners v_inn_names v_w) := by
  intro sz
  refine ct_body (by decide) (Nat.le_of_ble_eq_true rfl) ?_
  intro p e s m args below meth c A ls hAe C hr hin hP hD hS hl
  have C : CX p s m args meth c cX12_thing RX12 3 E A := C
  have hl : lv_has ls 3 [(0, .ref h), (1, .int p0), (2, .int p1)] := hl
  have hx := C.1
  have hb := C.2.1
  rw [hAe]
  clear hAe
  obtain ⟨Q, hQ⟩ : ∃ Q, Q = MQ below (Qi E A (z.1) (wX12_thing E h h_inn h_tape h_far h_from h_real h_other h_kept h_set h_w h_book h_noteSort h_whose h_what h_noteIs h_fitting h_dawn h_likes h_walked h_came h_inn_creak h_inn_doorA h_inn_doorB h_inn_how h_inn_lies h_inn_isCold h_inn_falls h_inn_isFull h_inn_isTold h_inn_act h_inn_what h_inn_then h_inn_met h_inn_bed h_inn_dream h_inn_listens h_inn_name h_inn_nameSort h_inn_nameNumber z.2.1 z.2.2.1 z.2.2.2 v_read v_taped v_size v_at v_sort v_place v_sign v_number v_fault v_wrongAt v_word v_marks v_notes v_inn_minutes v_inn_rooms v_inn_doors v_inn_things v_inn_dreams v_inn_sleepers v_inn_listeners v_inn_names v_w)) args s 0 0 A := ⟨_, rfl⟩
  rw [← hQ]
  unfold fX12_thing at hf
  refine lv_aload_n (pc := 0) hx hb dX12_thing_0 rfl (lv_at hl 0 rfl) ?_
  refine lv_iconst (pc := 1) (v := 0) hx hb dX12_thing_1 (by decide) ?_
  refine r_put (pc := 2) (ws' := (wX12_thing E h h_inn h_tape h_far h_from h_real h_other h_kept h_set h_w h_book h_noteSort h_whose h_what h_noteIs h_fitting h_dawn h_likes h_walked h_came h_inn_creak h_inn_doorA h_inn_doorB h_inn_how h_inn_lies h_inn_isCold h_inn_falls h_inn_isFull h_inn_isTold h_inn_act h_inn_what h_inn_then h_inn_met h_inn_bed h_inn_dream h_inn_listens h_inn_name h_inn_nameSort h_inn_nameNumber 0 v_trouble v_where v_read v_taped v_size v_at v_sort v_place v_sign v_number v_fault v_wrongAt v_word v_marks v_notes v_inn_minutes v_inn_rooms v_inn_doors v_inn_things v_inn_dreams v_inn_sleepers v_inn_listeners v_inn_names v_w)) C hP hD hS 0 rfl fl_X12_71 rfl rfl (Nat.le_of_ble_eq_true rfl) rfl dX12_thing_2 ?_
  clear hP hD hS; intro H locs hP hD hS
  refine lv_aload_n (pc := 5) hx hb dX12_thing_5 rfl (lv_at hl 0 rfl) ?_
  refine lv_iload_n (pc := 6) hx hb dX12_thing_6 rfl (lv_at hl 1 rfl) ?_
  obtain ⟨r_7, hc_7, hf⟩ := bd1 hf
  refine r_dalVi (pc := 7) (ws' := (wX12_thing E h h_inn h_tape h_far h_from h_real h_other h_kept h_set h_w h_book h_noteSort h_whose h_what h_noteIs h_fitting h_dawn h_likes h_walked h_came h_inn_creak h_inn_doorA h_inn_doorB h_inn_how h_inn_lies h_inn_isCold h_inn_falls h_inn_isFull h_inn_isTold h_inn_act h_inn_what h_inn_then h_inn_met h_inn_bed h_inn_dream h_inn_listens h_inn_name h_inn_nameSort h_inn_nameNumber 0 v_trouble v_where v_read v_taped v_size v_at v_sort v_place v_sign v_number v_fault v_wrongAt v_word v_marks v_notes v_inn_minutes v_inn_rooms v_inn_doors v_inn_things v_inn_dreams v_inn_sleepers v_inn_listeners v_inn_names v_w)) (As := [.int p0]) (rest := []) C (ctX12_isThing l E h h_inn h_tape h_far h_from h_real h_other h_kept h_set h_w h_book h_noteSort h_whose h_what h_noteIs h_fitting h_dawn h_likes h_walked h_came h_inn_creak h_inn_doorA h_inn_doorB h_inn_how h_inn_lies h_inn_isCold h_inn_falls h_inn_isFull h_inn_isTold h_inn_act h_inn_what h_inn_then h_inn_met h_inn_bed h_inn_dream h_inn_listens h_inn_name h_inn_nameSort h_inn_nameNumber 0 v_trouble v_where v_read v_taped v_size v_at v_sort v_place v_sign v_number v_fault v_wrongAt v_word v_marks v_notes v_inn_minutes v_inn_rooms v_inn_doors v_inn_things v_inn_dreams v_inn_sleepers v_inn_listeners v_inn_names N p0 r_7 hc_7) ml_X12_430 ⟨Nat.le_of_ble_eq_true rfl, Nat.le_of_ble_eq_true rfl⟩ hP hD hS 0 rfl rfl rfl [0, 1] [3, 4, 2] 3 rfl rfl rfl rfl rfl rfl rfl hl.1 rfl (Nat.le_of_ble_eq_true rfl) ⟨Nat.zero_le _, Nat.zero_le _⟩ dX12_thing_7 ?_
  clear hP hD hS; intro H locs hP hD hS
  refine lv_if_eq (pc := 10) (tgt := 22) hx hb dX12_thing_10 (by decide) (fun c_10 => ?_) (fun c_10 => ?_)
  · replace hf := it_t c_10 hf
    refine lv_aload_n (pc := 22) hx hb dX12_thing_22 rfl (lv_at hl 0 rfl) ?_
    refine lv_iconst (pc := 23) (v := 1) hx hb dX12_thing_23 (by decide) ?_
    obtain ⟨r_24, v_trouble_24, v_where_24, hc_24, hf⟩ := bd3 hf
    refine r_dalVi (pc := 24) (ws' := (wX12_thing E h h_inn h_tape h_far h_from h_real h_other h_kept h_set h_w h_book h_noteSort h_whose h_what h_noteIs h_fitting h_dawn h_likes h_walked h_came h_inn_creak h_inn_doorA h_inn_doorB h_inn_how h_inn_lies h_inn_isCold h_inn_falls h_inn_isFull h_inn_isTold h_inn_act h_inn_what h_inn_then h_inn_met h_inn_bed h_inn_dream h_inn_listens h_inn_name h_inn_nameSort h_inn_nameNumber 0 v_trouble_24 v_where_24 v_read v_taped v_size v_at v_sort v_place v_sign v_number v_fault v_wrongAt v_word v_marks v_notes v_inn_minutes v_inn_rooms v_inn_doors v_inn_things v_inn_dreams v_inn_sleepers v_inn_listeners v_inn_names v_w)) (As := [.int 1]) (rest := []) C (ctX12_refused l E h h_tape h_far h_from h_real h_other h_kept h_set h_w h_book h_noteSort h_whose h_what h_noteIs h_fitting h_dawn h_likes h_walked h_came 0 v_trouble v_where (some h_inn) v_read v_taped v_size v_at v_sort v_place v_sign v_number v_fault v_wrongAt v_word v_marks v_notes N 1 (r_24, v_trouble_24, v_where_24) hc_24) ml_X12_77 ⟨Nat.le_of_ble_eq_true rfl, Nat.le_of_ble_eq_true rfl⟩ hP hD hS 0 rfl rfl rfl [0] [3, 1, 2] 3 rfl rfl rfl rfl rfl rfl rfl hl.1 rfl (Nat.le_of_ble_eq_true rfl) ⟨Nat.zero_le _, Nat.zero_le _⟩ dX12_thing_24 ?_
    clear hP hD hS; intro H locs hP hD hS
    cases hf
    rw [hQ]
    exact r_iret C hr hP hD hS rfl dX12_thing_27
  · replace hf := it_f c_10 hf
    refine lv_iload_n (pc := 13) hx hb dX12_thing_13 rfl (lv_at hl 2 rfl) ?_
    refine lv_iconst (pc := 14) (v := 0) hx hb dX12_thing_14 (by decide) ?_
    refine lv_iconst (pc := 15) (v := 2) hx hb dX12_thing_15 (by decide) ?_
    obtain ⟨r_16, hc_16, hf⟩ := bd1 hf
    refine r_dalSi (pc := 16) (Cn := "") (h := 0) (ws' := (wX12_thing E h h_inn h_tape h_far h_from h_real h_other h_kept h_set h_w h_book h_noteSort h_whose h_what h_noteIs h_fitting h_dawn h_likes h_walked h_came h_inn_creak h_inn_doorA h_inn_doorB h_inn_how h_inn_lies h_inn_isCold h_inn_falls h_inn_isFull h_inn_isTold h_inn_act h_inn_what h_inn_then h_inn_met h_inn_bed h_inn_dream h_inn_listens h_inn_name h_inn_nameSort h_inn_nameNumber 0 v_trouble v_where v_read v_taped v_size v_at v_sort v_place v_sign v_number v_fault v_wrongAt v_word v_marks v_notes v_inn_minutes v_inn_rooms v_inn_doors v_inn_things v_inn_dreams v_inn_sleepers v_inn_listeners v_inn_names v_w)) (As := [.int p1, .int 0, .int 2]) (rest := []) C (ctX12_in l E N p1 0 2 r_16 hc_16) ml_X12_149 ⟨Nat.le_of_ble_eq_true rfl, Nat.le_of_ble_eq_true rfl⟩ hP hD hS [] [0, 1, 2] 3 rfl rfl rfl rfl rfl rfl rfl hl.1 rfl (Nat.le_of_ble_eq_true rfl) ⟨Nat.zero_le _, Nat.zero_le _⟩ dX12_thing_16 ?_
    clear hP hD hS; intro H locs hP hD hS
    refine lv_if_ne (pc := 19) (tgt := 28) hx hb dX12_thing_19 (by decide) (fun c_19 => ?_) (fun c_19 => ?_)
    · replace hf := it_f c_19 hf
      refine lv_aload_n (pc := 28) hx hb dX12_thing_28 rfl (lv_at hl 0 rfl) ?_
      refine lv_iload_n (pc := 29) hx hb dX12_thing_29 rfl (lv_at hl 2 rfl) ?_
      refine lv_if_ne (pc := 30) (tgt := 45) hx hb dX12_thing_30 (by decide) (fun c_30 => ?_) (fun c_30 => ?_)
      · replace hf := it_f c_30 hf
        refine lv_iload_n (pc := 45) hx hb dX12_thing_45 rfl (lv_at hl 2 rfl) ?_
        refine lv_iconst (pc := 46) (v := 1) hx hb dX12_thing_46 (by decide) ?_
        refine lv_icmp_ne (pc := 47) (tgt := 62) hx hb dX12_thing_47 (by decide) (fun c_47 => ?_) (fun c_47 => ?_)
        · replace hf := it_f c_47 hf
          refine lv_aload_n (pc := 62) hx hb dX12_thing_62 rfl (lv_at hl 0 rfl) ?_
          refine lv_iload_n (pc := 63) hx hb dX12_thing_63 rfl (lv_at hl 1 rfl) ?_
          obtain ⟨r_64, hc_64, hf⟩ := bd1 hf
          refine r_dalVi (pc := 64) (ws' := (wX12_thing E h h_inn h_tape h_far h_from h_real h_other h_kept h_set h_w h_book h_noteSort h_whose h_what h_noteIs h_fitting h_dawn h_likes h_walked h_came h_inn_creak h_inn_doorA h_inn_doorB h_inn_how h_inn_lies h_inn_isCold h_inn_falls h_inn_isFull h_inn_isTold h_inn_act h_inn_what h_inn_then h_inn_met h_inn_bed h_inn_dream h_inn_listens h_inn_name h_inn_nameSort h_inn_nameNumber 0 v_trouble v_where v_read v_taped v_size v_at v_sort v_place v_sign v_number v_fault v_wrongAt v_word v_marks v_notes v_inn_minutes v_inn_rooms v_inn_doors v_inn_things v_inn_dreams v_inn_sleepers v_inn_listeners v_inn_names v_w)) (As := [.int p0]) (rest := [.ref h]) C (ctX12_holder l E h h_inn h_tape h_far h_from h_real h_other h_kept h_set h_w h_book h_noteSort h_whose h_what h_noteIs h_fitting h_dawn h_likes h_walked h_came h_inn_creak h_inn_doorA h_inn_doorB h_inn_how h_inn_lies h_inn_isCold h_inn_falls h_inn_isFull h_inn_isTold h_inn_act h_inn_what h_inn_then h_inn_met h_inn_bed h_inn_dream h_inn_listens h_inn_name h_inn_nameSort h_inn_nameNumber 0 v_trouble v_where v_read v_taped v_size v_at v_sort v_place v_sign v_number v_fault v_wrongAt v_word v_marks v_notes v_inn_minutes v_inn_rooms v_inn_doors v_inn_things v_inn_dreams v_inn_sleepers v_inn_listeners v_inn_names v_w N p0 r_64 hc_64) ml_X12_400 ⟨Nat.le_of_ble_eq_true rfl, Nat.le_of_ble_eq_true rfl⟩ hP hD hS 0 rfl rfl rfl [0, 1, 2] [3, 4, 5] 3 rfl rfl rfl rfl rfl rfl rfl hl.1 rfl (Nat.le_of_ble_eq_true rfl) ⟨Nat.zero_le _, Nat.zero_le _⟩ dX12_thing_64 ?_
          clear hP hD hS; intro H locs hP hD hS
          obtain ⟨r_67, v_trouble_67, v_where_67, hc_67, hf⟩ := bd3 hf
          refine r_dalVi (pc := 67) (ws' := (wX12_thing E h h_inn h_tape h_far h_from h_real h_other h_kept h_set h_w h_book h_noteSort h_whose h_what h_noteIs h_fitting h_dawn h_likes h_walked h_came h_inn_creak h_inn_doorA h_inn_doorB h_inn_how h_inn_lies h_inn_isCold h_inn_falls h_inn_isFull h_inn_isTold h_inn_act h_inn_what h_inn_then h_inn_met h_inn_bed h_inn_dream h_inn_listens h_inn_name h_inn_nameSort h_inn_nameNumber 0 v_trouble_67 v_where_67 v_read v_taped v_size v_at v_sort v_place v_sign v_number v_fault v_wrongAt v_word v_marks v_notes v_inn_minutes v_inn_rooms v_inn_doors v_inn_things v_inn_dreams v_inn_sleepers v_inn_listeners v_inn_names v_w)) (As := [.int r_64]) (rest := []) C (ctX12_good l E h h_tape h_far h_from h_real h_other h_kept h_set h_w h_book h_noteSort h_whose h_what h_noteIs h_fitting h_dawn h_likes h_walked h_came 0 v_trouble v_where (some h_inn) v_read v_taped v_size v_at v_sort v_place v_sign v_number v_fault v_wrongAt v_word v_marks v_notes N r_64 (r_67, v_trouble_67, v_where_67) hc_67) ml_X12_81 ⟨Nat.le_of_ble_eq_true rfl, Nat.le_of_ble_eq_true rfl⟩ hP hD hS 0 rfl rfl rfl [0] [3, 1, 2] 3 rfl rfl rfl rfl rfl rfl rfl hl.1 rfl (Nat.le_of_ble_eq_true rfl) ⟨Nat.zero_le _, Nat.zero_le _⟩ dX12_thing_67 ?_
          clear hP hD hS; intro H locs hP hD hS
          cases hf
          rw [hQ]
          exact r_iret C hr hP hD hS rfl dX12_thing_70
        · replace hf := it_t c_47 hf
          refine lv_aload_n (pc := 50) hx hb dX12_thing_50 rfl (lv_at hl 0 rfl) ?_
          refine r_get (pc := 51) C hP 0 rfl fl_X12_36 rfl dX12_thing_51 ?_
          refine lv_bipush (pc := 54) (v := 19) hx hb dX12_thing_54 (by decide) ?_
          refine lv_iload_n (pc := 56) hx hb dX12_thing_56 rfl (lv_at hl 1 rfl) ?_
          refine lv_iadd (pc := 57) hx hb dX12_thing_57 ?_
          obtain ⟨hi_58, hf⟩ := gd_s hf
          refine r_iald (pc := 58) C hP 2 rfl hi_58 dX12_thing_58 ?_
          refine lv_goto (pc := 59) (tgt := 67) hx hb dX12_thing_59 (by decide) ?_
          obtain ⟨r_67, v_trouble_67, v_where_67, hc_67, hf⟩ := bd3 hf
          refine r_dalVi (pc := 67) (ws' := (wX12_thing E h h_inn h_tape h_far h_from h_real h_other h_kept h_set h_w h_book h_noteSort h_whose h_what h_noteIs h_fitting h_dawn h_likes h_walked h_came h_inn_creak h_inn_doorA h_inn_doorB h_inn_how h_inn_lies h_inn_isCold h_inn_falls h_inn_isFull h_inn_isTold h_inn_act h_inn_what h_inn_then h_inn_met h_inn_bed h_inn_dream h_inn_listens h_inn_name h_inn_nameSort h_inn_nameNumber 0 v_trouble_67 v_where_67 v_read v_taped v_size v_at v_sort v_place v_sign v_number v_fault v_wrongAt v_word v_marks v_notes v_inn_minutes v_inn_rooms v_inn_doors v_inn_things v_inn_dreams v_inn_sleepers v_inn_listeners v_inn_names v_w)) (As := [.int (v_w (19 + p0).toNatClampNeg)]) (rest := []) C (ctX12_good l E h h_tape h_far h_from h_real h_other h_kept h_set h_w h_book h_noteSort h_whose h_what h_noteIs h_fitting h_dawn h_likes h_walked h_came 0 v_trouble v_where (some h_inn) v_read v_taped v_size v_at v_sort v_place v_sign v_number v_fault v_wrongAt v_word v_marks v_notes N (v_w (19 + p0).toNatClampNeg) (r_67, v_trouble_67, v_where_67) hc_67) ml_X12_81 ⟨Nat.le_of_ble_eq_true rfl, Nat.le_of_ble_eq_true rfl⟩ hP hD hS 0 rfl rfl rfl [0] [3, 1, 2] 3 rfl rfl rfl rfl rfl rfl rfl hl.1 rfl (Nat.le_of_ble_eq_true rfl) ⟨Nat.zero_le _, Nat.zero_le _⟩ dX12_thing_67 ?_
          clear hP hD hS; intro H locs hP hD hS
          cases hf
          rw [hQ]
          exact r_iret C hr hP hD hS rfl dX12_thing_70
      · replace hf := it_t c_30 hf
        refine lv_aload_n (pc := 33) hx hb dX12_thing_33 rfl (lv_at hl 0 rfl) ?_
        refine r_get (pc := 34) C hP 0 rfl fl_X12_36 rfl dX12_thing_34 ?_
        refine lv_bipush (pc := 37) (v := 15) hx hb dX12_thing_37 (by decide) ?_
        refine lv_iload_n (pc := 39) hx hb dX12_thing_39 rfl (lv_at hl 1 rfl) ?_
        refine lv_iadd (pc := 40) hx hb dX12_thing_40 ?_
        obtain ⟨hi_41, hf⟩ := gd_s hf
        refine r_iald (pc := 41) C hP 2 rfl hi_41 dX12_thing_41 ?_
        refine lv_goto (pc := 42) (tgt := 67) hx hb dX12_thing_42 (by decide) ?_
        obtain ⟨r_67, v_trouble_67, v_where_67, hc_67, hf⟩ := bd3 hf
        refine r_dalVi (pc := 67) (ws' := (wX12_thing E h h_inn h_tape h_far h_from h_real h_other h_kept h_set h_w h_book h_noteSort h_whose h_what h_noteIs h_fitting h_dawn h_likes h_walked h_came h_inn_creak h_inn_doorA h_inn_doorB h_inn_how h_inn_lies h_inn_isCold h_inn_falls h_inn_isFull h_inn_isTold h_inn_act h_inn_what h_inn_then h_inn_met h_inn_bed h_inn_dream h_inn_listens h_inn_name h_inn_nameSort h_inn_nameNumber 0 v_trouble_67 v_where_67 v_read v_taped v_size v_at v_sort v_place v_sign v_number v_fault v_wrongAt v_word v_marks v_notes v_inn_minutes v_inn_rooms v_inn_doors v_inn_things v_inn_dreams v_inn_sleepers v_inn_listeners v_inn_names v_w)) (As := [.int (v_w (15 + p0).toNatClampNeg)]) (rest := []) C (ctX12_good l E h h_tape h_far h_from h_real h_other h_kept h_set h_w h_book h_noteSort h_whose h_what h_noteIs h_fitting h_dawn h_likes h_walked h_came 0 v_trouble v_where (some h_inn) v_read v_taped v_size v_at v_sort v_place v_sign v_number v_fault v_wrongAt v_word v_marks v_notes N (v_w (15 + p0).toNatClampNeg) (r_67, v_trouble_67, v_where_67) hc_67) ml_X12_81 ⟨Nat.le_of_ble_eq_true rfl, Nat.le_of_ble_eq_true rfl⟩ hP hD hS 0 rfl rfl rfl [0] [3, 1, 2] 3 rfl rfl rfl rfl rfl rfl rfl hl.1 rfl (Nat.le_of_ble_eq_true rfl) ⟨Nat.zero_le _, Nat.zero_le _⟩ dX12_thing_67 ?_
        clear hP hD hS; intro H locs hP hD hS
        cases hf
        rw [hQ]
        exact r_iret C hr hP hD hS rfl dX12_thing_70
    · replace hf := it_t c_19 hf
      refine lv_aload_n (pc := 22) hx hb dX12_thing_22 rfl (lv_at hl 0 rfl) ?_
      refine lv_iconst (pc := 23) (v := 1) hx hb dX12_thing_23 (by decide) ?_
      obtain ⟨r_24, v_trouble_24, v_where_24, hc_24, hf⟩ := bd3 hf
      refine r_dalVi (pc := 24) (ws' := (wX12_thing E h h_inn h_tape h_far h_from h_real h_other h_kept h_set h_w h_book h_noteSort h_whose h_what h_noteIs h_fitting h_dawn h_likes h_walked h_came h_inn_creak h_inn_doorA h_inn_doorB h_inn_how h_inn_lies h_inn_isCold h_inn_falls h_inn_isFull h_inn_isTold h_inn_act h_inn_what h_inn_then h_inn_met h_inn_bed h_inn_dream h_inn_listens h_inn_name h_inn_nameSort h_inn_nameNumber 0 v_trouble_24 v_where_24 v_read v_taped v_size v_at v_sort v_place v_sign v_number v_fault v_wrongAt v_word v_marks v_notes v_inn_minutes v_inn_rooms v_inn_doors v_inn_things v_inn_dreams v_inn_sleepers v_inn_listeners v_inn_names v_w)) (As := [.int 1]) (rest := []) C (ctX12_refused l E h h_tape h_far h_from h_real h_other h_kept h_set h_w h_book h_noteSort h_whose h_what h_noteIs h_fitting h_dawn h_likes h_walked h_came 0 v_trouble v_where (some h_inn) v_read v_taped v_size v_at v_sort v_place v_sign v_number v_fault v_wrongAt v_word v_marks v_notes N 1 (r_24, v_trouble_24, v_where_24) hc_24) ml_X12_77 ⟨Nat.le_of_ble_eq_true rfl, Nat.le_of_ble_eq_true rfl⟩ hP hD hS 0 rfl rfl rfl [0] [3, 1, 2] 3 rfl rfl rfl rfl rfl rfl rfl hl.1 rfl (Nat.le_of_ble_eq_true rfl) ⟨Nat.zero_le _, Nat.zero_le _⟩ dX12_thing_24 ?_
      clear hP hD hS; intro H locs hP hD hS
      cases hf
      rw [hQ]
      exact r_iret C hr hP hD hS rfl dX12_thing_27
def wX12_thing0 (E : EN) (h h_tape h_far h_from h_real h_other h_kept h_set h_w h_book h_noteSort h_whose h_what h_noteIs h_fitting h_dawn h_likes h_walked h_came : Nat) (v_thrown : Int32) (v_trouble : Int32) (v_where : Int32) (v_read : Option Nat) (v_taped : Int32) (v_size : Int32) (v_at : Int32) (v_sort : Int32) (v_place : Int32) (v_sign : Int32) (v_number : Int32) (v_fault : Int32) (v_wrongAt : Int32) (v_word : Int64) (v_marks : Int32) (v_notes : Int32) (v_w : Nat → Int32) : va_W := [(h, .inr (11, [.int v_thrown, .int v_trouble, .int v_where, .null, va_rf v_read, .ref h_tape, .int v_taped, .int v_size, .int v_at, .int v_sort, .int v_place, .int v_sign, .int v_number, .int v_fault, .int v_wrongAt, .long v_word, .ref h_far, .ref h_from, .ref h_real, .ref h_other, .ref h_kept, .ref h_set, .ref h_w, .int v_marks, .int v_notes, .ref h_book, .ref h_noteSort, .ref h_whose, .ref h_what, .ref h_noteIs, .ref h_fitting, .ref h_dawn, .ref h_likes, .ref h_walked, .ref h_came])), (h_w, aI E 51 v_w)]
def fX12_thing0 (N : Nat) (p0 : Int32) (p1 : Int32) (v_w : Nat → Int32) : Option (Int32 × Int32 × Int32 × Int32) := (fX12_isThing0 N).bind (un1 fun (r_7 : Int32) => if r_7 = 0 then ((fX12_refused N 1).bind (un3 fun (r_24 : Int32) (v_trouble_24 : Int32) (v_where_24 : Int32) => some (r_24, 0, v_trouble_24, v_where_24))) else ((fX12_in N p1 0 2).bind (un1 fun (r_16 : Int32) => if r_16 = 0 then ((fX12_refused N 1).bind (un3 fun (r_24 : Int32) (v_trouble_24 : Int32) (v_where_24 : Int32) => some (r_24, 0, v_trouble_24, v_where_24))) else (if p1 = 0 then (gd (15 + p0) 51 ((fX12_good N (v_w (15 + p0).toNatClampNeg)).bind (un3 fun (r_67 : Int32) (v_trouble_67 : Int32) (v_where_67 : Int32) => some (r_67, 0, v_trouble_67, v_where_67)))) else (if p1 = 1 then (gd (19 + p0) 51 ((fX12_good N (v_w (19 + p0).toNatClampNeg)).bind (un3 fun (r_67 : Int32) (v_trouble_67 : Int32) (v_where_67 : Int32) => some (r_67, 0, v_trouble_67, v_where_67)))) else (none))))))
set_option maxHeartbeats 4000000 in
set_option maxRecDepth 100000 in
theorem ctX12_thing0 (l : Launch) (E : EN) (h h_tape h_far h_from h_real h_other h_kept h_set h_w h_book h_noteSort h_whose h_what h_noteIs h_fitting h_dawn h_likes h_walked h_came : Nat) (v_thrown : Int32) (v_trouble : Int32) (v_where : Int32) (v_read : Option Nat) (v_taped : Int32) (v_size : Int32) (v_at : Int32) (v_sort : Int32) (v_place : Int32) (v_sign : Int32) (v_number : Int32) (v_fault : Int32) (v_wrongAt : Int32) (v_word : Int64) (v_marks : Int32) (v_notes : Int32) (v_w : Nat → Int32) (N : Nat) (p0 : Int32) (p1 : Int32) (z : Int32 × Int32 × Int32 × Int32) (hf : fX12_thing0 N p0 p1 v_w = some z) : CTi l E yX12_thing cX12_thing 3 .int 1 22 [.ref h, .int p0, .int p1] (wX12_thing0 E h h_tape h_far h_from h_real h_other h_kept h_set h_w h_book h_noteSort h_whose h_what h_noteIs h_fitting h_dawn h_likes h_walked h_came v_thrown v_trouble v_where v_read v_taped v_size v_at v_sort v_place v_sign v_number v_fault v_wrongAt v_word v_marks v_notes v_w) (z.1) (wX12_thing0 E h h_tape h_far h_from h_real h_other h_kept h_set h_w h_book h_noteSort h_whose h_what h_noteIs h_fitting h_dawn h_likes h_walked h_came z.2.1 z.2.2.1 z.2.2.2 v_read v_taped v_size v_at v_sort v_place v_sign v_number v_fault v_wrongAt v_word v_marks v_notes v_w) := by
  intro sz
  refine ct_body (by decide) (Nat.le_of_ble_eq_true rfl) ?_
  intro p e s m args below meth c A ls hAe C hr hin hP hD hS hl
  have C : CX p s m args meth c cX12_thing RX12 3 E A := C
  have hl : lv_has ls 3 [(0, .ref h), (1, .int p0), (2, .int p1)] := hl
  have hx := C.1
  have hb := C.2.1
  rw [hAe]
  clear hAe
  obtain ⟨Q, hQ⟩ : ∃ Q, Q = MQ below (Qi E A (z.1) (wX12_thing0 E h h_tape h_far h_from h_real h_other h_kept h_set h_w h_book h_noteSort h_whose h_what h_noteIs h_fitting h_dawn h_likes h_walked h_came z.2.1 z.2.2.1 z.2.2.2 v_read v_taped v_size v_at v_sort v_place v_sign v_number v_fault v_wrongAt v_word v_marks v_notes v_w)) args s 0 0 A := ⟨_, rfl⟩
  rw [← hQ]
  unfold fX12_thing0 at hf
  refine lv_aload_n (pc := 0) hx hb dX12_thing_0 rfl (lv_at hl 0 rfl) ?_
  refine lv_iconst (pc := 1) (v := 0) hx hb dX12_thing_1 (by decide) ?_
  refine r_put (pc := 2) (ws' := (wX12_thing0 E h h_tape h_far h_from h_real h_other h_kept h_set h_w h_book h_noteSort h_whose h_what h_noteIs h_fitting h_dawn h_likes h_walked h_came 0 v_trouble v_where v_read v_taped v_size v_at v_sort v_place v_sign v_number v_fault v_wrongAt v_word v_marks v_notes v_w)) C hP hD hS 0 rfl fl_X12_71 rfl rfl (Nat.le_of_ble_eq_true rfl) rfl dX12_thing_2 ?_
  clear hP hD hS; intro H locs hP hD hS
  refine lv_aload_n (pc := 5) hx hb dX12_thing_5 rfl (lv_at hl 0 rfl) ?_
  refine lv_iload_n (pc := 6) hx hb dX12_thing_6 rfl (lv_at hl 1 rfl) ?_
  obtain ⟨r_7, hc_7, hf⟩ := bd1 hf
  refine r_dalVi (pc := 7) (ws' := (wX12_thing0 E h h_tape h_far h_from h_real h_other h_kept h_set h_w h_book h_noteSort h_whose h_what h_noteIs h_fitting h_dawn h_likes h_walked h_came 0 v_trouble v_where v_read v_taped v_size v_at v_sort v_place v_sign v_number v_fault v_wrongAt v_word v_marks v_notes v_w)) (As := [.int p0]) (rest := []) C (ctX12_isThing0 l E h h_tape h_far h_from h_real h_other h_kept h_set h_w h_book h_noteSort h_whose h_what h_noteIs h_fitting h_dawn h_likes h_walked h_came 0 v_trouble v_where v_read v_taped v_size v_at v_sort v_place v_sign v_number v_fault v_wrongAt v_word v_marks v_notes N p0 r_7 hc_7) ml_X12_430 ⟨Nat.le_of_ble_eq_true rfl, Nat.le_of_ble_eq_true rfl⟩ hP hD hS 0 rfl rfl rfl [0] [2, 1] 2 rfl rfl rfl rfl rfl rfl rfl hl.1 rfl (Nat.le_of_ble_eq_true rfl) ⟨Nat.zero_le _, Nat.zero_le _⟩ dX12_thing_7 ?_
  clear hP hD hS; intro H locs hP hD hS
  refine lv_if_eq (pc := 10) (tgt := 22) hx hb dX12_thing_10 (by decide) (fun c_10 => ?_) (fun c_10 => ?_)
  · replace hf := it_t c_10 hf
    refine lv_aload_n (pc := 22) hx hb dX12_thing_22 rfl (lv_at hl 0 rfl) ?_
    refine lv_iconst (pc := 23) (v := 1) hx hb dX12_thing_23 (by decide) ?_
    obtain ⟨r_24, v_trouble_24, v_where_24, hc_24, hf⟩ := bd3 hf
    refine r_dalVi (pc := 24) (ws' := (wX12_thing0 E h h_tape h_far h_from h_real h_other h_kept h_set h_w h_book h_noteSort h_whose h_what h_noteIs h_fitting h_dawn h_likes h_walked h_came 0 v_trouble_24 v_where_24 v_read v_taped v_size v_at v_sort v_place v_sign v_number v_fault v_wrongAt v_word v_marks v_notes v_w)) (As := [.int 1]) (rest := []) C (ctX12_refused l E h h_tape h_far h_from h_real h_other h_kept h_set h_w h_book h_noteSort h_whose h_what h_noteIs h_fitting h_dawn h_likes h_walked h_came 0 v_trouble v_where none v_read v_taped v_size v_at v_sort v_place v_sign v_number v_fault v_wrongAt v_word v_marks v_notes N 1 (r_24, v_trouble_24, v_where_24) hc_24) ml_X12_77 ⟨Nat.le_of_ble_eq_true rfl, Nat.le_of_ble_eq_true rfl⟩ hP hD hS 0 rfl rfl rfl [0] [2, 1] 2 rfl rfl rfl rfl rfl rfl rfl hl.1 rfl (Nat.le_of_ble_eq_true rfl) ⟨Nat.zero_le _, Nat.zero_le _⟩ dX12_thing_24 ?_
    clear hP hD hS; intro H locs hP hD hS
    cases hf
    rw [hQ]
    exact r_iret C hr hP hD hS rfl dX12_thing_27
  · replace hf := it_f c_10 hf
    refine lv_iload_n (pc := 13) hx hb dX12_thing_13 rfl (lv_at hl 2 rfl) ?_
    refine lv_iconst (pc := 14) (v := 0) hx hb dX12_thing_14 (by decide) ?_
    refine lv_iconst (pc := 15) (v := 2) hx hb dX12_thing_15 (by decide) ?_
    obtain ⟨r_16, hc_16, hf⟩ := bd1 hf
    refine r_dalSi (pc := 16) (Cn := "") (h := 0) (ws' := (wX12_thing0 E h h_tape h_far h_from h_real h_other h_kept h_set h_w h_book h_noteSort h_whose h_what h_noteIs h_fitting h_dawn h_likes h_walked h_came 0 v_trouble v_where v_read v_taped v_size v_at v_sort v_place v_sign v_number v_fault v_wrongAt v_word v_marks v_notes v_w)) (As := [.int p1, .int 0, .int 2]) (rest := []) C (ctX12_in l E N p1 0 2 r_16 hc_16) ml_X12_149 ⟨Nat.le_of_ble_eq_true rfl, Nat.le_of_ble_eq_true rfl⟩ hP hD hS [] [0, 1] 2 rfl rfl rfl rfl rfl rfl rfl hl.1 rfl (Nat.le_of_ble_eq_true rfl) ⟨Nat.zero_le _, Nat.zero_le _⟩ dX12_thing_16 ?_
    clear hP hD hS; intro H locs hP hD hS
    refine lv_if_ne (pc := 19) (tgt := 28) hx hb dX12_thing_19 (by decide) (fun c_19 => ?_) (fun c_19 => ?_)
    · replace hf := it_f c_19 hf
      refine lv_aload_n (pc := 28) hx hb dX12_thing_28 rfl (lv_at hl 0 rfl) ?_
      refine lv_iload_n (pc := 29) hx hb dX12_thing_29 rfl (lv_at hl 2 rfl) ?_
      refine lv_if_ne (pc := 30) (tgt := 45) hx hb dX12_thing_30 (by decide) (fun c_30 => ?_) (fun c_30 => ?_)
      · replace hf := it_f c_30 hf
        refine lv_iload_n (pc := 45) hx hb dX12_thing_45 rfl (lv_at hl 2 rfl) ?_
        refine lv_iconst (pc := 46) (v := 1) hx hb dX12_thing_46 (by decide) ?_
        refine lv_icmp_ne (pc := 47) (tgt := 62) hx hb dX12_thing_47 (by decide) (fun c_47 => ?_) (fun c_47 => ?_)
        · replace hf := it_f c_47 hf
          refine lv_aload_n (pc := 62) hx hb dX12_thing_62 rfl (lv_at hl 0 rfl) ?_
          refine lv_iload_n (pc := 63) hx hb dX12_thing_63 rfl (lv_at hl 1 rfl) ?_
          cases hf
        · replace hf := it_t c_47 hf
          refine lv_aload_n (pc := 50) hx hb dX12_thing_50 rfl (lv_at hl 0 rfl) ?_
          refine r_get (pc := 51) C hP 0 rfl fl_X12_36 rfl dX12_thing_51 ?_
          refine lv_bipush (pc := 54) (v := 19) hx hb dX12_thing_54 (by decide) ?_
          refine lv_iload_n (pc := 56) hx hb dX12_thing_56 rfl (lv_at hl 1 rfl) ?_
          refine lv_iadd (pc := 57) hx hb dX12_thing_57 ?_
          obtain ⟨hi_58, hf⟩ := gd_s hf
          refine r_iald (pc := 58) C hP 1 rfl hi_58 dX12_thing_58 ?_
          refine lv_goto (pc := 59) (tgt := 67) hx hb dX12_thing_59 (by decide) ?_
          obtain ⟨r_67, v_trouble_67, v_where_67, hc_67, hf⟩ := bd3 hf
          refine r_dalVi (pc := 67) (ws' := (wX12_thing0 E h h_tape h_far h_from h_real h_other h_kept h_set h_w h_book h_noteSort h_whose h_what h_noteIs h_fitting h_dawn h_likes h_walked h_came 0 v_trouble_67 v_where_67 v_read v_taped v_size v_at v_sort v_place v_sign v_number v_fault v_wrongAt v_word v_marks v_notes v_w)) (As := [.int (v_w (19 + p0).toNatClampNeg)]) (rest := []) C (ctX12_good l E h h_tape h_far h_from h_real h_other h_kept h_set h_w h_book h_noteSort h_whose h_what h_noteIs h_fitting h_dawn h_likes h_walked h_came 0 v_trouble v_where none v_read v_taped v_size v_at v_sort v_place v_sign v_number v_fault v_wrongAt v_word v_marks v_notes N (v_w (19 + p0).toNatClampNeg) (r_67, v_trouble_67, v_where_67) hc_67) ml_X12_81 ⟨Nat.le_of_ble_eq_true rfl, Nat.le_of_ble_eq_true rfl⟩ hP hD hS 0 rfl rfl rfl [0] [2, 1] 2 rfl rfl rfl rfl rfl rfl rfl hl.1 rfl (Nat.le_of_ble_eq_true rfl) ⟨Nat.zero_le _, Nat.zero_le _⟩ dX12_thing_67 ?_
          clear hP hD hS; intro H locs hP hD hS
          cases hf
          rw [hQ]
          exact r_iret C hr hP hD hS rfl dX12_thing_70
      · replace hf := it_t c_30 hf
        refine lv_aload_n (pc := 33) hx hb dX12_thing_33 rfl (lv_at hl 0 rfl) ?_
        refine r_get (pc := 34) C hP 0 rfl fl_X12_36 rfl dX12_thing_34 ?_
        refine lv_bipush (pc := 37) (v := 15) hx hb dX12_thing_37 (by decide) ?_
        refine lv_iload_n (pc := 39) hx hb dX12_thing_39 rfl (lv_at hl 1 rfl) ?_
        refine lv_iadd (pc := 40) hx hb dX12_thing_40 ?_
        obtain ⟨hi_41, hf⟩ := gd_s hf
        refine r_iald (pc := 41) C hP 1 rfl hi_41 dX12_thing_41 ?_
        refine lv_goto (pc := 42) (tgt := 67) hx hb dX12_thing_42 (by decide) ?_
        obtain ⟨r_67, v_trouble_67, v_where_67, hc_67, hf⟩ := bd3 hf
        refine r_dalVi (pc := 67) (ws' := (wX12_thing0 E h h_tape h_far h_from h_real h_other h_kept h_set h_w h_book h_noteSort h_whose h_what h_noteIs h_fitting h_dawn h_likes h_walked h_came 0 v_trouble_67 v_where_67 v_read v_taped v_size v_at v_sort v_place v_sign v_number v_fault v_wrongAt v_word v_marks v_notes v_w)) (As := [.int (v_w (15 + p0).toNatClampNeg)]) (rest := []) C (ctX12_good l E h h_tape h_far h_from h_real h_other h_kept h_set h_w h_book h_noteSort h_whose h_what h_noteIs h_fitting h_dawn h_likes h_walked h_came 0 v_trouble v_where none v_read v_taped v_size v_at v_sort v_place v_sign v_number v_fault v_wrongAt v_word v_marks v_notes N (v_w (15 + p0).toNatClampNeg) (r_67, v_trouble_67, v_where_67) hc_67) ml_X12_81 ⟨Nat.le_of_ble_eq_true rfl, Nat.le_of_ble_eq_true rfl⟩ hP hD hS 0 rfl rfl rfl [0] [2, 1] 2 rfl rfl rfl rfl rfl rfl rfl hl.1 rfl (Nat.le_of_ble_eq_true rfl) ⟨Nat.zero_le _, Nat.zero_le _⟩ dX12_thing_67 ?_
        clear hP hD hS; intro H locs hP hD hS
        cases hf
        rw [hQ]
        exact r_iret C hr hP hD hS rfl dX12_thing_70
    · replace hf := it_t c_19 hf
      refine lv_aload_n (pc := 22) hx hb dX12_thing_22 rfl (lv_at hl 0 rfl) ?_
      refine lv_iconst (pc := 23) (v := 1) hx hb dX12_thing_23 (by decide) ?_
      obtain ⟨r_24, v_trouble_24, v_where_24, hc_24, hf⟩ := bd3 hf
      refine r_dalVi (pc := 24) (ws' := (wX12_thing0 E h h_tape h_far h_from h_real h_other h_kept h_set h_w h_book h_noteSort h_whose h_what h_noteIs h_fitting h_dawn h_likes h_walked h_came 0 v_trouble_24 v_where_24 v_read v_taped v_size v_at v_sort v_place v_sign v_number v_fault v_wrongAt v_word v_marks v_notes v_w)) (As := [.int 1]) (rest := []) C (ctX12_refused l E h h_tape h_far h_from h_real h_other h_kept h_set h_w h_book h_noteSort h_whose h_what h_noteIs h_fitting h_dawn h_likes h_walked h_came 0 v_trouble v_where none v_read v_taped v_size v_at v_sort v_place v_sign v_number v_fault v_wrongAt v_word v_marks v_notes N 1 (r_24, v_trouble_24, v_where_24) hc_24) ml_X12_77 ⟨Nat.le_of_ble_eq_true rfl, Nat.le_of_ble_eq_true rfl⟩ hP hD hS 0 rfl rfl rfl [0] [2, 1] 2 rfl rfl rfl rfl rfl rfl rfl hl.1 rfl (Nat.le_of_ble_eq_true rfl) ⟨Nat.zero_le _, Nat.zero_le _⟩ dX12_thing_24 ?_
      clear hP hD hS; intro H locs hP hD hS
      cases hf
      rw [hQ]
      exact r_iret C hr hP hD hS rfl dX12_thing_27
def wX12_isDoor (E : EN) (h h_inn h_tape h_far h_from h_real h_other h_kept h_set h_w h_book h_noteSort h_whose h_what h_noteIs h_fitting h_dawn h_likes h_walked h_came h_inn_creak h_inn_doorA h_inn_doorB h_inn_how h_inn_lies h_inn_isCold h_inn_falls h_inn_isFull h_inn_isTold h_inn_act h_inn_what h_inn_then h_inn_met h_inn_bed h_inn_dream h_inn_listens h_inn_name h_inn_nameSort h_inn_nameNumber : Nat) (v_thrown : Int32) (v_trouble : Int32) (v_where : Int32) (v_read : Option Nat) (v_taped : Int32) (v_size : Int32) (v_at : Int32) (v_sort : Int32) (v_place : Int32) (v_sign : Int32) (v_number : Int32) (v_fault : Int32) (v_wrongAt : Int32) (v_word : Int64) (v_marks : Int32) (v_notes : Int32) (v_inn_minutes : Int32) (v_inn_rooms : Int32) (v_inn_doors : Int32) (v_inn_things : Int32) (v_inn_dreams : Int32) (v_inn_sleepers : Int32) (v_inn_listeners : Int32) (v_inn_names : Int32) : va_W := [(h, .inr (11, [.int v_thrown, .int v_trouble, .int v_where, .ref h_inn, va_rf v_read, .ref h_tape, .int v_taped, .int v_size, .int v_at, .int v_sort, .int v_place, .int v_sign, .int v_number, .int v_fault, .int v_wrongAt, .long v_word, .ref h_far, .ref h_from, .ref h_real, .ref h_other, .ref h_kept, .ref h_set, .ref h_w, .int v_marks, .int v_notes, .ref h_book, .ref h_noteSort, .ref h_whose, .ref h_what, .ref h_noteIs, .ref h_fitting, .ref h_dawn, .ref h_likes, .ref h_walked, .ref h_came])), (h_inn, .inr (10, [.int v_inn_minutes, .int v_inn_rooms, .int v_inn_doors, .int v_inn_things, .int v_inn_dreams, .int v_inn_sleepers, .int v_inn_listeners, .int v_inn_names, .ref h_inn_creak, .ref h_inn_doorA, .ref h_inn_doorB, .ref h_inn_how, .ref h_inn_lies, .ref h_inn_isCold, .ref h_inn_falls, .ref h_inn_isFull, .ref h_inn_isTold, .ref h_inn_act, .ref h_inn_what, .ref h_inn_then, .ref h_inn_met, .ref h_inn_bed, .ref h_inn_dream, .ref h_inn_listens, .ref h_inn_name, .ref h_inn_nameSort, .ref h_inn_nameNumber]))]
def fX12_isDoor (N : Nat) (p0 : Int32) (v_inn_doors : Int32) : Option Int32 := jn (un0 (some 0)) (fun j26 => if p0 < 0 then (j26 ()) else (if v_inn_doors ≤ p0 then (j26 ()) else (some 1)))
set_option maxHeartbeats 4000000 in
set_option maxRecDepth 100000 in
theorem ctX12_isDoor (l : Launch) (E : EN) (h h_inn h_tape h_far h_from h_real h_other h_kept h_set h_w h_book h_noteSort h_whose h_what h_noteIs h_fitting h_dawn h_likes h_walked h_came h_inn_creak h_inn_doorA h_inn_doorB h_inn_how h_inn_lies h_inn_isCold h_inn_falls h_inn_isFull h_inn_isTold h_inn_act h_inn_what h_inn_then h_inn_met h_inn_bed h_inn_dream h_inn_listens h_inn_name h_inn_nameSort h_inn_nameNumber : Nat) (v_thrown : Int32) (v_trouble : Int32) (v_where : Int32) (v_read : Option Nat) (v_taped : Int32) (v_size : Int32) (v_at : Int32) (v_sort : Int32) (v_place : Int32) (v_sign : Int32) (v_number : Int32) (v_fault : Int32) (v_wrongAt : Int32) (v_word : Int64) (v_marks : Int32) (v_notes : Int32) (v_inn_minutes : Int32) (v_inn_rooms : Int32) (v_inn_doors : Int32) (v_inn_things : Int32) (v_inn_dreams : Int32) (v_inn_sleepers : Int32) (v_inn_listeners : Int32) (v_inn_names : Int32) (N : Nat) (p0 : Int32) (z : Int32) (hf : fX12_isDoor N p0 v_inn_doors = some z) : CTi l E yX12_isDoor cX12_isDoor 2 .boolean 0 0 [.ref h, .int p0] (wX12_isDoor E h h_inn h_tape h_far h_from h_real h_other h_kept h_set h_w h_book h_noteSort h_whose h_what h_noteIs h_fitting h_dawn h_likes h_walked h_came h_inn_creak h_inn_doorA h_inn_doorB h_inn_how h_inn_lies h_inn_isCold h_inn_falls h_inn_isFull h_inn_isTold h_inn_act h_inn_what h_inn_then h_inn_met h_inn_bed h_inn_dream h_inn_listens h_inn_name h_inn_nameSort h_inn_nameNumber v_thrown v_trouble v_where v_read v_taped v_size v_at v_sort v_place v_sign v_number v_fault v_wrongAt v_word v_marks v_notes v_inn_minutes v_inn_rooms v_inn_doors v_inn_things v_inn_dreams v_inn_sleepers v_inn_listeners v_inn_names) (z) (wX12_isDoor E h h_inn h_tape h_far h_from h_real h_other h_kept h_set h_w h_book h_noteSort h_whose h_what h_noteIs h_fitting h_dawn h_likes h_walked h_came h_inn_creak h_inn_doorA h_inn_doorB h_inn_how h_inn_lies h_inn_isCold h_inn_falls h_inn_isFull h_inn_isTold h_inn_act h_inn_what h_inn_then h_inn_met h_inn_bed h_inn_dream h_inn_listens h_inn_name h_inn_nameSort h_inn_nameNumber v_thrown v_trouble v_where v_read v_taped v_size v_at v_sort v_place v_sign v_number v_fault v_wrongAt v_word v_marks v_notes v_inn_minutes v_inn_rooms v_inn_doors v_inn_things v_inn_dreams v_inn_sleepers v_inn_listeners v_inn_names) := by
  intro sz
  refine ct_body (by decide) (Nat.le_of_ble_eq_true rfl) ?_
  intro p e s m args below meth c A ls hAe C hr hin hP hD hS hl
  have C : CX p s m args meth c cX12_isDoor RX12 2 E A := C
  have hl : lv_has ls 2 [(0, .ref h), (1, .int p0)] := hl
  have hx := C.1
  have hb := C.2.1
  rw [hAe]
  clear hAe
  obtain ⟨Q, hQ⟩ : ∃ Q, Q = MQ below (Qi E A (z) (wX12_isDoor E h h_inn h_tape h_far h_from h_real h_other h_kept h_set h_w h_book h_noteSort h_whose h_what h_noteIs h_fitting h_dawn h_likes h_walked h_came h_inn_creak h_inn_doorA h_inn_doorB h_inn_how h_inn_lies h_inn_isCold h_inn_falls h_inn_isFull h_inn_isTold h_inn_act h_inn_what h_inn_then h_inn_met h_inn_bed h_inn_dream h_inn_listens h_inn_name h_inn_nameSort h_inn_nameNumber v_thrown v_trouble v_where v_read v_taped v_size v_at v_sort v_place v_sign v_number v_fault v_wrongAt v_word v_marks v_notes v_inn_minutes v_inn_rooms v_inn_doors v_inn_things v_inn_dreams v_inn_sleepers v_inn_listeners v_inn_names)) args s 0 0 A := ⟨_, rfl⟩
  rw [← hQ]
  unfold fX12_isDoor at hf
  refine lv_aload_n (pc := 0) hx hb dX12_isDoor_0 rfl (lv_at hl 0 rfl) ?_
  refine r_get (pc := 1) C hP 0 rfl fl_X12_358 rfl dX12_isDoor_1 ?_
  refine jnK hf (fun j26 ej26 hf => ?_)
  have hj26 : j26 () = some z → AT p l e (rmOf 0 0) s m args below meth c E A Q 0 0 2 [] (wX12_isDoor E h h_inn h_tape h_far h_from h_real h_other h_kept h_set h_w h_book h_noteSort h_whose h_what h_noteIs h_fitting h_dawn h_likes h_walked h_came h_inn_creak h_inn_doorA h_inn_doorB h_inn_how h_inn_lies h_inn_isCold h_inn_falls h_inn_isFull h_inn_isTold h_inn_act h_inn_what h_inn_then h_inn_met h_inn_bed h_inn_dream h_inn_listens h_inn_name h_inn_nameSort h_inn_nameNumber v_thrown v_trouble v_where v_read v_taped v_size v_at v_sort v_place v_sign v_number v_fault v_wrongAt v_word v_marks v_notes v_inn_minutes v_inn_rooms v_inn_doors v_inn_things v_inn_dreams v_inn_sleepers v_inn_listeners v_inn_names) 26 [] := by
    intro  hf H locs ls hl hP hD hS
    rw [ej26] at hf
    replace hf := un0_s hf
    refine lv_iconst (pc := 26) (v := 0) hx hb dX12_isDoor_26 (by decide) ?_
    cases hf
    rw [hQ]
    exact r_zret C hr hP hD hS (Or.inl rfl) rfl dX12_isDoor_27
  clear ej26
  refine lv_ifnull (pc := 4) hx hb dX12_isDoor_4 ?_
  refine lv_iload_n (pc := 7) hx hb dX12_isDoor_7 rfl (lv_at hl 1 rfl) ?_
  refine lv_if_lt (pc := 8) (tgt := 26) hx hb dX12_isDoor_8 (by decide) (fun c_8 => ?_) (fun c_8 => ?_)
  · replace hf := it_t c_8 hf
    exact hj26  hf _ _ _ (lv_sub hl [] rfl) hP hD hS
  · replace hf := it_f c_8 hf
    refine lv_iload_n (pc := 11) hx hb dX12_isDoor_11 rfl (lv_at hl 1 rfl) ?_
    refine lv_aload_n (pc := 12) hx hb dX12_isDoor_12 rfl (lv_at hl 0 rfl) ?_
    refine r_get (pc := 13) C hP 0 rfl fl_X12_358 rfl dX12_isDoor_13 ?_
    refine r_get (pc := 16) C hP 1 rfl fl_X12_292 rfl dX12_isDoor_16 ?_
    refine lv_icmp_ge (pc := 19) (tgt := 26) hx hb dX12_isDoor_19 (by decide) (fun c_19 => ?_) (fun c_19 => ?_)
    · replace hf := it_t c_19 hf
      exact hj26  hf _ _ _ (lv_sub hl [] rfl) hP hD hS
    · replace hf := it_f c_19 hf
      refine lv_iconst (pc := 22) (v := 1) hx hb dX12_isDoor_22 (by decide) ?_
      refine lv_goto (pc := 23) (tgt := 27) hx hb dX12_isDoor_23 (by decide) ?_
      cases hf
      rw [hQ]
      exact r_zret C hr hP hD hS (Or.inr rfl) rfl dX12_isDoor_27
def wX12_isDoor0 (E : EN) (h h_tape h_far h_from h_real h_other h_kept h_set h_w h_book h_noteSort h_whose h_what h_noteIs h_fitting h_dawn h_likes h_walked h_came : Nat) (v_thrown : Int32) (v_trouble : Int32) (v_where : Int32) (v_read : Option Nat) (v_taped : Int32) (v_size : Int32) (v_at : Int32) (v_sort : Int32) (v_place : Int32) (v_sign : Int32) (v_number : Int32) (v_fault : Int32) (v_wrongAt : Int32) (v_word : Int64) (v_marks : Int32) (v_notes : Int32) : va_W := [(h, .inr (11, [.int v_thrown, .int v_trouble, .int v_where, .null, va_rf v_read, .ref h_tape, .int v_taped, .int v_size, .int v_at, .int v_sort, .int v_place, .int v_sign, .int v_number, .int v_fault, .int v_wrongAt, .long v_word, .ref h_far, .ref h_from, .ref h_real, .ref h_other, .ref h_kept, .ref h_set, .ref h_w, .int v_marks, .int v_notes, .ref h_book, .ref h_noteSort, .ref h_whose, .ref h_what, .ref h_noteIs, .ref h_fitting, .ref h_dawn, .ref h_likes, .ref h_walked, .ref h_came]))]
def fX12_isDoor0 (N : Nat) : Option Int32 := jn (un0 (some 0)) (fun j26 => j26 ())
set_option maxHeartbeats 4000000 in
set_option maxRecDepth 100000 in
theorem ctX12_isDoor0 (l : Launch) (E : EN) (h h_tape h_far h_from h_real h_other h_kept h_set h_w h_book h_noteSort h_whose h_what h_noteIs h_fitting h_dawn h_likes h_walked h_came : Nat) (v_thrown : Int32) (v_trouble : Int32) (v_where : Int32) (v_read : Option Nat) (v_taped : Int32) (v_size : Int32) (v_at : Int32) (v_sort : Int32) (v_place : Int32) (v_sign : Int32) (v_number : Int32) (v_fault : Int32) (v_wrongAt : Int32) (v_word : Int64) (v_marks : Int32) (v_notes : Int32) (N : Nat) (p0 : Int32) (z : Int32) (hf : fX12_isDoor0 N  = some z) : CTi l E yX12_isDoor cX12_isDoor 2 .boolean 0 0 [.ref h, .int p0] (wX12_isDoor0 E h h_tape h_far h_from h_real h_other h_kept h_set h_w h_book h_noteSort h_whose h_what h_noteIs h_fitting h_dawn h_likes h_walked h_came v_thrown v_trouble v_where v_read v_taped v_size v_at v_sort v_place v_sign v_number v_fault v_wrongAt v_word v_marks v_notes) (z) (wX12_isDoor0 E h h_tape h_far h_from h_real h_other h_kept h_set h_w h_book h_noteSort h_whose h_what h_noteIs h_fitting h_dawn h_likes h_walked h_came v_thrown v_trouble v_where v_read v_taped v_size v_at v_sort v_place v_sign v_number v_fault v_wrongAt v_word v_marks v_notes) := by
  intro sz
  refine ct_body (by decide) (Nat.le_of_ble_eq_true rfl) ?_
  intro p e s m args below meth c A ls hAe C hr hin hP hD hS hl
  have C : CX p s m args meth c cX12_isDoor RX12 2 E A := C
  have hl : lv_has ls 2 [(0, .ref h), (1, .int p0)] := hl
  have hx := C.1
  have hb := C.2.1
  rw [hAe]
  clear hAe
  obtain ⟨Q, hQ⟩ : ∃ Q, Q = MQ below (Qi E A (z) (wX12_isDoor0 E h h_tape h_far h_from h_real h_other h_kept h_set h_w h_book h_noteSort h_whose h_what h_noteIs h_fitting h_dawn h_likes h_walked h_came v_thrown v_trouble v_where v_read v_taped v_size v_at v_sort v_place v_sign v_number v_fault v_wrongAt v_word v_marks v_notes)) args s 0 0 A := ⟨_, rfl⟩
  rw [← hQ]
  unfold fX12_isDoor0 at hf
  refine lv_aload_n (pc := 0) hx hb dX12_isDoor_0 rfl (lv_at hl 0 rfl) ?_
  refine r_get (pc := 1) C hP 0 rfl fl_X12_358 rfl dX12_isDoor_1 ?_
  refine jnK hf (fun j26 ej26 hf => ?_)
  have hj26 : j26 () = some z → AT p l e (rmOf 0 0) s m args below meth c E A Q 0 0 2 [] (wX12_isDoor0 E h h_tape h_far h_from h_real h_other h_kept h_set h_w h_book h_noteSort h_whose h_what h_noteIs h_fitting h_dawn h_likes h_walked h_came v_thrown v_trouble v_where v_read v_taped v_size v_at v_sort v_place v_sign v_number v_fault v_wrongAt v_word v_marks v_notes) 26 [] := by
    intro  hf H locs ls hl hP hD hS
    rw [ej26] at hf
    replace hf := un0_s hf
    refine lv_iconst (pc := 26) (v := 0) hx hb dX12_isDoor_26 (by decide) ?_
    cases hf
    rw [hQ]
    exact r_zret C hr hP hD hS (Or.inl rfl) rfl dX12_isDoor_27
  clear ej26
  refine lv_ifnullN (pc := 4) (tgt := 26) hx hb dX12_isDoor_4 (by decide) ?_
  exact hj26  hf _ _ _ (lv_sub hl [] rfl) hP hD hS
def wX12_doorway (E : EN) (h h_inn h_tape h_far h_from h_real h_other h_kept h_set h_w h_book h_noteSort h_whose h_what h_noteIs h_fitting h_dawn h_likes h_walked h_came h_inn_creak h_inn_doorA h_inn_doorB h_inn_how h_inn_lies h_inn_isCold h_inn_falls h_inn_isFull h_inn_isTold h_inn_act h_inn_what h_inn_then h_inn_met h_inn_bed h_inn_dream h_inn_listens h_inn_name h_inn_nameSort h_inn_nameNumber : Nat) (v_thrown : Int32) (v_trouble : Int32) (v_where : Int32) (v_read : Option Nat) (v_taped : Int32) (v_size : Int32) (v_at : Int32) (v_sort : Int32) (v_place : Int32) (v_sign : Int32) (v_number : Int32) (v_fault : Int32) (v_wrongAt : Int32) (v_word : Int64) (v_marks : Int32) (v_notes : Int32) (v_inn_minutes : Int32) (v_inn_rooms : Int32) (v_inn_doors : Int32) (v_inn_things : Int32) (v_inn_dreams : Int32) (v_inn_sleepers : Int32) (v_inn_listeners : Int32) (v_inn_names : Int32) (v_w : Nat → Int32) : va_W := [(h, .inr (11, [.int v_thrown, .int v_trouble, .int v_where, .ref h_inn, va_rf v_read, .ref h_tape, .int v_taped, .int v_size, .int v_at, .int v_sort, .int v_place, .int v_sign, .int v_number, .int v_fault, .int v_wrongAt, .long v_word, .ref h_far, .ref h_from, .ref h_real, .ref h_other, .ref h_kept, .ref h_set, .ref h_w, .int v_marks, .int v_notes, .ref h_book, .ref h_noteSort, .ref h_whose, .ref h_what, .ref h_noteIs, .ref h_fitting, .ref h_dawn, .ref h_likes, .ref h_walked, .ref h_came])), (h_inn, .inr (10, [.int v_inn_minutes, .int v_inn_rooms, .int v_inn_doors, .int v_inn_things, .int v_inn_dreams, .int v_inn_sleepers, .int v_inn_listeners, .int v_inn_names, .ref h_inn_creak, .ref h_inn_doorA, .ref h_inn_doorB, .ref h_inn_how, .ref h_inn_lies, .ref h_inn_isCold, .ref h_inn_falls, .ref h_inn_isFull, .ref h_inn_isTold, .ref h_inn_act, .ref h_inn_what, .ref h_inn_then, .ref h_inn_met, .ref h_inn_bed, .ref h_inn_dream, .ref h_inn_listens, .ref h_inn_name, .ref h_inn_nameSort, .ref h_inn_nameNumber])), (h_w, aI E 51 v_w)]
def fX12_doorway (N : Nat) (p0 : Int32) (p1 : Int32) (v_inn_doors : Int32) (v_w : Nat → Int32) : Option (Int32 × Int32 × Int32 × Int32) := (fX12_isDoor N p0 v_inn_doors).bind (un1 fun (r_7 : Int32) => if r_7 = 0 then ((fX12_refused N 1).bind (un3 fun (r_24 : Int32) (v_trouble_24 : Int32) (v_where_24 : Int32) => some (r_24, 0, v_trouble_24, v_where_24))) else ((fX12_in N p1 0 1).bind (un1 fun (r_16 : Int32) => if r_16 = 0 then ((fX12_refused N 1).bind (un3 fun (r_24 : Int32) (v_trouble_24 : Int32) (v_where_24 : Int32) => some (r_24, 0, v_trouble_24, v_where_24))) else (jn (un1 fun (x44_s2 : Int32) => gd (x44_s2 + p0) 51 ((fX12_good N (v_w (x44_s2 + p0).toNatClampNeg)).bind (un3 fun (r_47 : Int32) (v_trouble_47 : Int32) (v_where_47 : Int32) => some (r_47, 0, v_trouble_47, v_where_47)))) (fun j44 => if p1 = 0 then (j44 23) else (j44 33))))))
set_option maxHeartbeats 4000000 in
set_option maxRecDepth 100000 in
theorem ctX12_doorway (l : Launch) (E : EN) (h h_inn h_tape h_far h_from h_real h_other h_kept h_set h_w h_book h_noteSort h_whose h_what h_noteIs h_fitting h_dawn h_likes h_walked h_came h_inn_creak h_inn_doorA h_inn_doorB h_inn_how h_inn_lies h_inn_isCold h_inn_falls h_inn_isFull h_inn_isTold h_inn_act h_inn_what h_inn_then h_inn_met h_inn_bed h_inn_dream h_inn_listens h_inn_name h_inn_nameSort h_inn_nameNumber : Nat) (v_thrown : Int32) (v_trouble : Int32) (v_where : Int32) (v_read : Option Nat) (v_taped : Int32) (v_size : Int32) (v_at : Int32) (v_sort : Int32) (v_place : Int32) (v_sign : Int32) (v_number : Int32) (v_fault : Int32) (v_wrongAt : Int32) (v_word : Int64) (v_marks : Int32) (v_notes : Int32) (v_inn_minutes : Int32) (v_inn_rooms : Int32) (v_inn_doors : Int32) (v_inn_things : Int32) (v_inn_dreams : Int32) (v_inn_sleepers : Int32) (v_inn_listeners : Int32) (v_inn_names : Int32) (v_w : Nat → Int32) (N : Nat) (p0 : Int32) (p1 : Int32) (z : Int32 × Int32 × Int32 × Int32) (hf : fX12_doorway N p0 p1 v_inn_doors v_w = some z) : CTi l E yX12_doorway cX12_doorway 3 .int 1 22 [.ref h, .int p0, .int p1] (wX12_doorway E h h_inn h_tape h_far h_from h_real h_other h_kept h_set h_w h_book h_noteSort h_whose h_what h_noteIs h_fitting h_dawn h_likes h_walked h_came h_inn_creak h_inn_doorA h_inn_doorB h_inn_how h_inn_lies h_inn_isCold h_inn_falls h_inn_isFull h_inn_isTold h_inn_act h_inn_what h_inn_then h_inn_met h_inn_bed h_inn_dream h_inn_listens h_inn_name h_inn_nameSort h_inn_nameNumber v_thrown v_trouble v_where v_read v_taped v_size v_at v_sort v_place v_sign v_number v_fault v_wrongAt v_word v_marks v_notes v_inn_minutes v_inn_rooms v_inn_doors v_inn_things v_inn_dreams v_inn_sleepers v_inn_listeners v_inn_names v_w) (z.1) (wX12_doorway E h h_inn h_tape h_far h_from h_real h_other h_kept h_set h_w h_book h_noteSort h_whose h_what h_noteIs h_fitting h_dawn h_likes h_walked h_came h_inn_creak h_inn_doorA h_inn_doorB h_inn_how h_inn_lies h_inn_isCold h_inn_falls h_inn_isFull h_inn_isTold h_inn_act h_inn_what h_inn_then h_inn_met h_inn_bed h_inn_dream h_inn_listens h_inn_name h_inn_nameSort h_inn_nameNumber z.2.1 z.2.2.1 z.2.2.2 v_read v_taped v_size v_at v_sort v_place v_sign v_number v_fault v_wrongAt v_word v_marks v_notes v_inn_minutes v_inn_rooms v_inn_doors v_inn_things v_inn_dreams v_inn_sleepers v_inn_listeners v_inn_names v_w) := by
  intro sz
  refine ct_body (by decide) (Nat.le_of_ble_eq_true rfl) ?_
  intro p e s m args below meth c A ls hAe C hr hin hP hD hS hl
  have C : CX p s m args meth c cX12_doorway RX12 3 E A := C
  have hl : lv_has ls 3 [(0, .ref h), (1, .int p0), (2, .int p1)] := hl
  have hx := C.1
  have hb := C.2.1
  rw [hAe]
  clear hAe
  obtain ⟨Q, hQ⟩ : ∃ Q, Q = MQ below (Qi E A (z.1) (wX12_doorway E h h_inn h_tape h_far h_from h_real h_other h_kept h_set h_w h_book h_noteSort h_whose h_what h_noteIs h_fitting h_dawn h_likes h_walked h_came h_inn_creak h_inn_doorA h_inn_doorB h_inn_how h_inn_lies h_inn_isCold h_inn_falls h_inn_isFull h_inn_isTold h_inn_act h_inn_what h_inn_then h_inn_met h_inn_bed h_inn_dream h_inn_listens h_inn_name h_inn_nameSort h_inn_nameNumber z.2.1 z.2.2.1 z.2.2.2 v_read v_taped v_size v_at v_sort v_place v_sign v_number v_fault v_wrongAt v_word v_marks v_notes v_inn_minutes v_inn_rooms v_inn_doors v_inn_things v_inn_dreams v_inn_sleepers v_inn_listeners v_inn_names v_w)) args s 0 0 A := ⟨_, rfl⟩
  rw [← hQ]
  unfold fX12_doorway at hf
  refine lv_aload_n (pc := 0) hx hb dX12_doorway_0 rfl (lv_at hl 0 rfl) ?_
  refine lv_iconst (pc := 1) (v := 0) hx hb dX12_doorway_1 (by decide) ?_
  refine r_put (pc := 2) (ws' := (wX12_doorway E h h_inn h_tape h_far h_from h_real h_other h_kept h_set h_w h_book h_noteSort h_whose h_what h_noteIs h_fitting h_dawn h_likes h_walked h_came h_inn_creak h_inn_doorA h_inn_doorB h_inn_how h_inn_lies h_inn_isCold h_inn_falls h_inn_isFull h_inn_isTold h_inn_act h_inn_what h_inn_then h_inn_met h_inn_bed h_inn_dream h_inn_listens h_inn_name h_inn_nameSort h_inn_nameNumber 0 v_trouble v_where v_read v_taped v_size v_at v_sort v_place v_sign v_number v_fault v_wrongAt v_word v_marks v_notes v_inn_minutes v_inn_rooms v_inn_doors v_inn_things v_inn_dreams v_inn_sleepers v_inn_listeners v_inn_names v_w)) C hP hD hS 0 rfl fl_X12_71 rfl rfl (Nat.le_of_ble_eq_true rfl) rfl dX12_doorway_2 ?_
  clear hP hD hS; intro H locs hP hD hS
  refine lv_aload_n (pc := 5) hx hb dX12_doorway_5 rfl (lv_at hl 0 rfl) ?_
  refine lv_iload_n (pc := 6) hx hb dX12_doorway_6 rfl (lv_at hl 1 rfl) ?_
  obtain ⟨r_7, hc_7, hf⟩ := bd1 hf
  refine r_dalVi (pc := 7) (ws' := (wX12_doorway E h h_inn h_tape h_far h_from h_real h_other h_kept h_set h_w h_book h_noteSort h_whose h_what h_noteIs h_fitting h_dawn h_likes h_walked h_came h_inn_creak h_inn_doorA h_inn_doorB h_inn_how h_inn_lies h_inn_isCold h_inn_falls h_inn_isFull h_inn_isTold h_inn_act h_inn_what h_inn_then h_inn_met h_inn_bed h_inn_dream h_inn_listens h_inn_name h_inn_nameSort h_inn_nameNumber 0 v_trouble v_where v_read v_taped v_size v_at v_sort v_place v_sign v_number v_fault v_wrongAt v_word v_marks v_notes v_inn_minutes v_inn_rooms v_inn_doors v_inn_things v_inn_dreams v_inn_sleepers v_inn_listeners v_inn_names v_w)) (As := [.int p0]) (rest := []) C (ctX12_isDoor l E h h_inn h_tape h_far h_from h_real h_other h_kept h_set h_w h_book h_noteSort h_whose h_what h_noteIs h_fitting h_dawn h_likes h_walked h_came h_inn_creak h_inn_doorA h_inn_doorB h_inn_how h_inn_lies h_inn_isCold h_inn_falls h_inn_isFull h_inn_isTold h_inn_act h_inn_what h_inn_then h_inn_met h_inn_bed h_inn_dream h_inn_listens h_inn_name h_inn_nameSort h_inn_nameNumber 0 v_trouble v_where v_read v_taped v_size v_at v_sort v_place v_sign v_number v_fault v_wrongAt v_word v_marks v_notes v_inn_minutes v_inn_rooms v_inn_doors v_inn_things v_inn_dreams v_inn_sleepers v_inn_listeners v_inn_names N p0 r_7 hc_7) ml_X12_433 ⟨Nat.le_of_ble_eq_true rfl, Nat.le_of_ble_eq_true rfl⟩ hP hD hS 0 rfl rfl rfl [0, 1] [3, 4, 2] 3 rfl rfl rfl rfl rfl rfl rfl hl.1 rfl (Nat.le_of_ble_eq_true rfl) ⟨Nat.zero_le _, Nat.zero_le _⟩ dX12_doorway_7 ?_
  clear hP hD hS; intro H locs hP hD hS
  refine lv_if_eq (pc := 10) (tgt := 22) hx hb dX12_doorway_10 (by decide) (fun c_10 => ?_) (fun c_10 => ?_)
  · replace hf := it_t c_10 hf
    refine lv_aload_n (pc := 22) hx hb dX12_doorway_22 rfl (lv_at hl 0 rfl) ?_
    refine lv_iconst (pc := 23) (v := 1) hx hb dX12_doorway_23 (by decide) ?_
    obtain ⟨r_24, v_trouble_24, v_where_24, hc_24, hf⟩ := bd3 hf
    refine r_dalVi (pc := 24) (ws' := (wX12_doorway E h h_inn h_tape h_far h_from h_real h_other h_kept h_set h_w h_book h_noteSort h_whose h_what h_noteIs h_fitting h_dawn h_likes h_walked h_came h_inn_creak h_inn_doorA h_inn_doorB h_inn_how h_inn_lies h_inn_isCold h_inn_falls h_inn_isFull h_inn_isTold h_inn_act h_inn_what h_inn_then h_inn_met h_inn_bed h_inn_dream h_inn_listens h_inn_name h_inn_nameSort h_inn_nameNumber 0 v_trouble_24 v_where_24 v_read v_taped v_size v_at v_sort v_place v_sign v_number v_fault v_wrongAt v_word v_marks v_notes v_inn_minutes v_inn_rooms v_inn_doors v_inn_things v_inn_dreams v_inn_sleepers v_inn_listeners v_inn_names v_w)) (As := [.int 1]) (rest := []) C (ctX12_refused l E h h_tape h_far h_from h_real h_other h_kept h_set h_w h_book h_noteSort h_whose h_what h_noteIs h_fitting h_dawn h_likes h_walked h_came 0 v_trouble v_where (some h_inn) v_read v_taped v_size v_at v_sort v_place v_sign v_number v_fault v_wrongAt v_word v_marks v_notes N 1 (r_24, v_trouble_24, v_where_24) hc_24) ml_X12_77 ⟨Nat.le_of_ble_eq_true rfl, Nat.le_of_ble_eq_true rfl⟩ hP hD hS 0 rfl rfl rfl [0] [3, 1, 2] 3 rfl rfl rfl rfl rfl rfl rfl hl.1 rfl (Nat.le_of_ble_eq_true rfl) ⟨Nat.zero_le _, Nat.zero_le _⟩ dX12_doorway_24 ?_
    clear hP hD hS; intro H locs hP hD hS
    cases hf
    rw [hQ]
    exact r_iret C hr hP hD hS rfl dX12_doorway_27
  · replace hf := it_f c_10 hf
    refine lv_iload_n (pc := 13) hx hb dX12_doorway_13 rfl (lv_at hl 2 rfl) ?_
    refine lv_iconst (pc := 14) (v := 0) hx hb dX12_doorway_14 (by decide) ?_
    refine lv_iconst (pc := 15) (v := 1) hx hb dX12_doorway_15 (by decide) ?_
    obtain ⟨r_16, hc_16, hf⟩ := bd1 hf
    refine r_dalSi (pc := 16) (Cn := "") (h := 0) (ws' := (wX12_doorway E h h_inn h_tape h_far h_from h_real h_other h_kept h_set h_w h_book h_noteSort h_whose h_what h_noteIs h_fitting h_dawn h_likes h_walked h_came h_inn_creak h_inn_doorA h_inn_doorB h_inn_how h_inn_lies h_inn_isCold h_inn_falls h_inn_isFull h_inn_isTold h_inn_act h_inn_what h_inn_then h_inn_met h_inn_bed h_inn_dream h_inn_listens h_inn_name h_inn_nameSort h_inn_nameNumber 0 v_trouble v_where v_read v_taped v_size v_at v_sort v_place v_sign v_number v_fault v_wrongAt v_word v_marks v_notes v_inn_minutes v_inn_rooms v_inn_doors v_inn_things v_inn_dreams v_inn_sleepers v_inn_listeners v_inn_names v_w)) (As := [.int p1, .int 0, .int 1]) (rest := []) C (ctX12_in l E N p1 0 1 r_16 hc_16) ml_X12_149 ⟨Nat.le_of_ble_eq_true rfl, Nat.le_of_ble_eq_true rfl⟩ hP hD hS [] [0, 1, 2] 3 rfl rfl rfl rfl rfl rfl rfl hl.1 rfl (Nat.le_of_ble_eq_true rfl) ⟨Nat.zero_le _, Nat.zero_le _⟩ dX12_doorway_16 ?_
    clear hP hD hS; intro H locs hP hD hS
    refine lv_if_ne (pc := 19) (tgt := 28) hx hb dX12_doorway_19 (by decide) (fun c_19 => ?_) (fun c_19 => ?_)
    · replace hf := it_f c_19 hf
      refine lv_aload_n (pc := 28) hx hb dX12_doorway_28 rfl (lv_at hl 0 rfl) ?_
      refine lv_aload_n (pc := 29) hx hb dX12_doorway_29 rfl (lv_at hl 0 rfl) ?_
      refine r_get (pc := 30) C hP 0 rfl fl_X12_36 rfl dX12_doorway_30 ?_
      refine lv_iload_n (pc := 33) hx hb dX12_doorway_33 rfl (lv_at hl 2 rfl) ?_
      refine jnK hf (fun j44 ej44 hf => ?_)
      have hj44 : ∀ (x44_s2 : Int32) , j44 x44_s2 = some z → AT p l e (rmOf 1 22) s m args below meth c E A Q 0 0 3 [(1, .int p0)] (wX12_doorway E h h_inn h_tape h_far h_from h_real h_other h_kept h_set h_w h_book h_noteSort h_whose h_what h_noteIs h_fitting h_dawn h_likes h_walked h_came h_inn_creak h_inn_doorA h_inn_doorB h_inn_how h_inn_lies h_inn_isCold h_inn_falls h_inn_isFull h_inn_isTold h_inn_act h_inn_what h_inn_then h_inn_met h_inn_bed h_inn_dream h_inn_listens h_inn_name h_inn_nameSort h_inn_nameNumber 0 v_trouble v_where v_read v_taped v_size v_at v_sort v_place v_sign v_number v_fault v_wrongAt v_word v_marks v_notes v_inn_minutes v_inn_rooms v_inn_doors v_inn_things v_inn_dreams v_inn_sleepers v_inn_listeners v_inn_names v_w) 44 [.int x44_s2, .ref h_w, .ref h] := by
        intro x44_s2 hf H locs ls hl hP hD hS
        rw [ej44] at hf
        replace hf := un1_s hf
        refine lv_iload_n (pc := 44) hx hb dX12_doorway_44 rfl (lv_at hl 0 rfl) ?_
        refine lv_iadd (pc := 45) hx hb dX12_doorway_45 ?_
        obtain ⟨hi_46, hf⟩ := gd_s hf
        refine r_iald (pc := 46) C hP 2 rfl hi_46 dX12_doorway_46 ?_
        obtain ⟨r_47, v_trouble_47, v_where_47, hc_47, hf⟩ := bd3 hf
        refine r_dalVi (pc := 47) (ws' := (wX12_doorway E h h_inn h_tape h_far h_from h_real h_other h_kept h_set h_w h_book h_noteSort h_whose h_what h_noteIs h_fitting h_dawn h_likes h_walked h_came h_inn_creak h_inn_doorA h_inn_doorB h_inn_how h_inn_lies h_inn_isCold h_inn_falls h_inn_isFull h_inn_isTold h_inn_act h_inn_what h_inn_then h_inn_met h_inn_bed h_inn_dream h_inn_listens h_inn_name h_inn_nameSort h_inn_nameNumber 0 v_trouble_47 v_where_47 v_read v_taped v_size v_at v_sort v_place v_sign v_number v_fault v_wrongAt v_word v_marks v_notes v_inn_minutes v_inn_rooms v_inn_doors v_inn_things v_inn_dreams v_inn_sleepers v_inn_listeners v_inn_names v_w)) (As := [.int (v_w (x44_s2 + p0).toNatClampNeg)]) (rest := []) C (ctX12_good l E h h_tape h_far h_from h_real h_other h_kept h_set h_w h_book h_noteSort h_whose h_what h_noteIs h_fitting h_dawn h_likes h_walked h_came 0 v_trouble v_where (some h_inn) v_read v_taped v_size v_at v_sort v_place v_sign v_number v_fault v_wrongAt v_word v_marks v_notes N (v_w (x44_s2 + p0).toNatClampNeg) (r_47, v_trouble_47, v_where_47) hc_47) ml_X12_81 ⟨Nat.le_of_ble_eq_true rfl, Nat.le_of_ble_eq_true rfl⟩ hP hD hS 0 rfl rfl rfl [0] [3, 1, 2] 3 rfl rfl rfl rfl rfl rfl rfl hl.1 rfl (Nat.le_of_ble_eq_true rfl) ⟨Nat.zero_le _, Nat.zero_le _⟩ dX12_doorway_47 ?_
        clear hP hD hS; intro H locs hP hD hS
        cases hf
        rw [hQ]
        exact r_iret C hr hP hD hS rfl dX12_doorway_50
      clear ej44
      refine lv_if_ne (pc := 34) (tgt := 42) hx hb dX12_doorway_34 (by decide) (fun c_34 => ?_) (fun c_34 => ?_)
      · replace hf := it_f c_34 hf
        refine lv_bipush (pc := 42) (v := 33) hx hb dX12_doorway_42 (by decide) ?_
        exact hj44 33 hf _ _ _ (lv_sub hl [1] rfl) hP hD hS
      · replace hf := it_t c_34 hf
        refine lv_bipush (pc := 37) (v := 23) hx hb dX12_doorway_37 (by decide) ?_
        refine lv_goto (pc := 39) (tgt := 44) hx hb dX12_doorway_39 (by decide) ?_
        exact hj44 23 hf _ _ _ (lv_sub hl [1] rfl) hP hD hS
    · replace hf := it_t c_19 hf
      refine lv_aload_n (pc := 22) hx hb dX12_doorway_22 rfl (lv_at hl 0 rfl) ?_
      refine lv_iconst (pc := 23) (v := 1) hx hb dX12_doorway_23 (by decide) ?_
      obtain ⟨r_24, v_trouble_24, v_where_24, hc_24, hf⟩ := bd3 hf
      refine r_dalVi (pc := 24) (ws' := (wX12_doorway E h h_inn h_tape h_far h_from h_real h_other h_kept h_set h_w h_book h_noteSort h_whose h_what h_noteIs h_fitting h_dawn h_likes h_walked h_came h_inn_creak h_inn_doorA h_inn_doorB h_inn_how h_inn_lies h_inn_isCold h_inn_falls h_inn_isFull h_inn_isTold h_inn_act h_inn_what h_inn_then h_inn_met h_inn_bed h_inn_dream h_inn_listens h_inn_name h_inn_nameSort h_inn_nameNumber 0 v_trouble_24 v_where_24 v_read v_taped v_size v_at v_sort v_place v_sign v_number v_fault v_wrongAt v_word v_marks v_notes v_inn_minutes v_inn_rooms v_inn_doors v_inn_things v_inn_dreams v_inn_sleepers v_inn_listeners v_inn_names v_w)) (As := [.int 1]) (rest := []) C (ctX12_refused l E h h_tape h_far h_from h_real h_other h_kept h_set h_w h_book h_noteSort h_whose h_what h_noteIs h_fitting h_dawn h_likes h_walked h_came 0 v_trouble v_where (some h_inn) v_read v_taped v_size v_at v_sort v_place v_sign v_number v_fault v_wrongAt v_word v_marks v_notes N 1 (r_24, v_trouble_24, v_where_24) hc_24) ml_X12_77 ⟨Nat.le_of_ble_eq_true rfl, Nat.le_of_ble_eq_true rfl⟩ hP hD hS 0 rfl rfl rfl [0] [3, 1, 2] 3 rfl rfl rfl rfl rfl rfl rfl hl.1 rfl (Nat.le_of_ble_eq_true rfl) ⟨Nat.zero_le _, Nat.zero_le _⟩ dX12_doorway_24 ?_
      clear hP hD hS; intro H locs hP hD hS
      cases hf
      rw [hQ]
      exact r_iret C hr hP hD hS rfl dX12_doorway_27
def wX12_doorway0 (E : EN) (h h_tape h_far h_from h_real h_other h_kept h_set h_w h_book h_noteSort h_whose h_what h_noteIs h_fitting h_dawn h_likes h_walked h_came : Nat) (v_thrown : Int32) (v_trouble : Int32) (v_where : Int32) (v_read : Option Nat) (v_taped : Int32) (v_size : Int32) (v_at : Int32) (v_sort : Int32) (v_place : Int32) (v_sign : Int32) (v_number : Int32) (v_fault : Int32) (v_wrongAt : Int32) (v_word : Int64) (v_marks : Int32) (v_notes : Int32) (v_w : Nat → Int32) : va_W := [(h, .inr (11, [.int v_thrown, .int v_trouble, .int v_where, .null, va_rf v_read, .ref h_tape, .int v_taped, .int v_size, .int v_at, .int v_sort, .int v_place, .int v_sign, .int v_number, .int v_fault, .int v_wrongAt, .long v_word, .ref h_far, .ref h_from, .ref h_real, .ref h_other, .ref h_kept, .ref h_set, .ref h_w, .int v_marks, .int v_notes, .ref h_book, .ref h_noteSort, .ref h_whose, .ref h_what, .ref h_noteIs, .ref h_fitting, .ref h_dawn, .ref h_likes, .ref h_walked, .ref h_came])), (h_w, aI E 51 v_w)]
def fX12_doorway0 (N : Nat) (p0 : Int32) (p1 : Int32) (v_w : Nat → Int32) : Option (Int32 × Int32 × Int32 × Int32) := (fX12_isDoor0 N).bind (un1 fun (r_7 : Int32) => if r_7 = 0 then ((fX12_refused N 1).bind (un3 fun (r_24 : Int32) (v_trouble_24 : Int32) (v_where_24 : Int32) => some (r_24, 0, v_trouble_24, v_where_24))) else ((fX12_in N p1 0 1).bind (un1 fun (r_16 : Int32) => if r_16 = 0 then ((fX12_refused N 1).bind (un3 fun (r_24 : Int32) (v_trouble_24 : Int32) (v_where_24 : Int32) => some (r_24, 0, v_trouble_24, v_where_24))) else (jn (un1 fun (x44_s2 : Int32) => gd (x44_s2 + p0) 51 ((fX12_good N (v_w (x44_s2 + p0).toNatClampNeg)).bind (un3 fun (r_47 : Int32) (v_trouble_47 : Int32) (v_where_47 : Int32) => some (r_47, 0, v_trouble_47, v_where_47)))) (fun j44 => if p1 = 0 then (j44 23) else (j44 33))))))
set_option maxHeartbeats 4000000 in
set_option maxRecDepth 100000 in
theorem ctX12_doorway0 (l : Launch) (E : EN) (h h_tape h_far h_from h_real h_other h_kept h_set h_w h_book h_noteSort h_whose h_what h_noteIs h_fitting h_dawn h_likes h_walked h_came : Nat) (v_thrown : Int32) (v_trouble : Int32) (v_where : Int32) (v_read : Option Nat) (v_taped : Int32) (v_size : Int32) (v_at : Int32) (v_sort : Int32) (v_place : Int32) (v_sign : Int32) (v_number : Int32) (v_fault : Int32) (v_wrongAt : Int32) (v_word : Int64) (v_marks : Int32) (v_notes : Int32) (v_w : Nat → Int32) (N : Nat) (p0 : Int32) (p1 : Int32) (z : Int32 × Int32 × Int32 × Int32) (hf : fX12_doorway0 N p0 p1 v_w = some z) : CTi l E yX12_doorway cX12_doorway 3 .int 1 22 [.ref h, .int p0, .int p1] (wX12_doorway0 E h h_tape h_far h_from h_real h_other h_kept h_set h_w h_book h_noteSort h_whose h_what h_noteIs h_fitting h_dawn h_likes h_walked h_came v_thrown v_trouble v_where v_read v_taped v_size v_at v_sort v_place v_sign v_number v_fault v_wrongAt v_word v_marks v_notes v_w) (z.1) (wX12_doorway0 E h h_tape h_far h_from h_real h_other h_kept h_set h_w h_book h_noteSort h_whose h_what h_noteIs h_fitting h_dawn h_likes h_walked h_came z.2.1 z.2.2.1 z.2.2.2 v_read v_taped v_size v_at v_sort v_place v_sign v_number v_fault v_wrongAt v_word v_marks v_notes v_w) := by
  intro sz
  refine ct_body (by decide) (Nat.le_of_ble_eq_true rfl) ?_
  intro p e s m args below meth c A ls hAe C hr hin hP hD hS hl
  have C : CX p s m args meth c cX12_doorway RX12 3 E A := C
  have hl : lv_has ls 3 [(0, .ref h), (1, .int p0), (2, .int p1)] := hl
  have hx := C.1
  have hb := C.2.1
  rw [hAe]
  clear hAe
  obtain ⟨Q, hQ⟩ : ∃ Q, Q = MQ below (Qi E A (z.1) (wX12_doorway0 E h h_tape h_far h_from h_real h_other h_kept h_set h_w h_book h_noteSort h_whose h_what h_noteIs h_fitting h_dawn h_likes h_walked h_came z.2.1 z.2.2.1 z.2.2.2 v_read v_taped v_size v_at v_sort v_place v_sign v_number v_fault v_wrongAt v_word v_marks v_notes v_w)) args s 0 0 A := ⟨_, rfl⟩
  rw [← hQ]
  unfold fX12_doorway0 at hf
  refine lv_aload_n (pc := 0) hx hb dX12_doorway_0 rfl (lv_at hl 0 rfl) ?_
  refine lv_iconst (pc := 1) (v := 0) hx hb dX12_doorway_1 (by decide) ?_
  refine r_put (pc := 2) (ws' := (wX12_doorway0 E h h_tape h_far h_from h_real h_other h_kept h_set h_w h_book h_noteSort h_whose h_what h_noteIs h_fitting h_dawn h_likes h_walked h_came 0 v_trouble v_where v_read v_taped v_size v_at v_sort v_place v_sign v_number v_fault v_wrongAt v_word v_marks v_notes v_w)) C hP hD hS 0 rfl fl_X12_71 rfl rfl (Nat.le_of_ble_eq_true rfl) rfl dX12_doorway_2 ?_
  clear hP hD hS; intro H locs hP hD hS
  refine lv_aload_n (pc := 5) hx hb dX12_doorway_5 rfl (lv_at hl 0 rfl) ?_
  refine lv_iload_n (pc := 6) hx hb dX12_doorway_6 rfl (lv_at hl 1 rfl) ?_
  obtain ⟨r_7, hc_7, hf⟩ := bd1 hf
  refine r_dalVi (pc := 7) (ws' := (wX12_doorway0 E h h_tape h_far h_from h_real h_other h_kept h_set h_w h_book h_noteSort h_whose h_what h_noteIs h_fitting h_dawn h_likes h_walked h_came 0 v_trouble v_where v_read v_taped v_size v_at v_sort v_place v_sign v_number v_fault v_wrongAt v_word v_marks v_notes v_w)) (As := [.int p0]) (rest := []) C (ctX12_isDoor0 l E h h_tape h_far h_from h_real h_other h_kept h_set h_w h_book h_noteSort h_whose h_what h_noteIs h_fitting h_dawn h_likes h_walked h_came 0 v_trouble v_where v_read v_taped v_size v_at v_sort v_place v_sign v_number v_fault v_wrongAt v_word v_marks v_notes N p0 r_7 hc_7) ml_X12_433 ⟨Nat.le_of_ble_eq_true rfl, Nat.le_of_ble_eq_true rfl⟩ hP hD hS 0 rfl rfl rfl [0] [2, 1] 2 rfl rfl rfl rfl rfl rfl rfl hl.1 rfl (Nat.le_of_ble_eq_true rfl) ⟨Nat.zero_le _, Nat.zero_le _⟩ dX12_doorway_7 ?_
  clear hP hD hS; intro H locs hP hD hS
  refine lv_if_eq (pc := 10) (tgt := 22) hx hb dX12_doorway_10 (by decide) (fun c_10 => ?_) (fun c_10 => ?_)
  · replace hf := it_t c_10 hf
    refine lv_aload_n (pc := 22) hx hb dX12_doorway_22 rfl (lv_at hl 0 rfl) ?_
    refine lv_iconst (pc := 23) (v := 1) hx hb dX12_doorway_23 (by decide) ?_
    obtain ⟨r_24, v_trouble_24, v_where_24, hc_24, hf⟩ := bd3 hf
    refine r_dalVi (pc := 24) (ws' := (wX12_doorway0 E h h_tape h_far h_from h_real h_other h_kept h_set h_w h_book h_noteSort h_whose h_what h_noteIs h_fitting h_dawn h_likes h_walked h_came 0 v_trouble_24 v_where_24 v_read v_taped v_size v_at v_sort v_place v_sign v_number v_fault v_wrongAt v_word v_marks v_notes v_w)) (As := [.int 1]) (rest := []) C (ctX12_refused l E h h_tape h_far h_from h_real h_other h_kept h_set h_w h_book h_noteSort h_whose h_what h_noteIs h_fitting h_dawn h_likes h_walked h_came 0 v_trouble v_where none v_read v_taped v_size v_at v_sort v_place v_sign v_number v_fault v_wrongAt v_word v_marks v_notes N 1 (r_24, v_trouble_24, v_where_24) hc_24) ml_X12_77 ⟨Nat.le_of_ble_eq_true rfl, Nat.le_of_ble_eq_true rfl⟩ hP hD hS 0 rfl rfl rfl [0] [2, 1] 2 rfl rfl rfl rfl rfl rfl rfl hl.1 rfl (Nat.le_of_ble_eq_true rfl) ⟨Nat.zero_le _, Nat.zero_le _⟩ dX12_doorway_24 ?_
    clear hP hD hS; intro H locs hP hD hS
    cases hf
    rw [hQ]
    exact r_iret C hr hP hD hS rfl dX12_doorway_27
  · replace hf := it_f c_10 hf
    refine lv_iload_n (pc := 13) hx hb dX12_doorway_13 rfl (lv_at hl 2 rfl) ?_
    refine lv_iconst (pc := 14) (v := 0) hx hb dX12_doorway_14 (by decide) ?_
    refine lv_iconst (pc := 15) (v := 1) hx hb dX12_doorway_15 (by decide) ?_
    obtain ⟨r_16, hc_16, hf⟩ := bd1 hf
    refine r_dalSi (pc := 16) (Cn := "") (h := 0) (ws' := (wX12_doorway0 E h h_tape h_far h_from h_real h_other h_kept h_set h_w h_book h_noteSort h_whose h_what h_noteIs h_fitting h_dawn h_likes h_walked h_came 0 v_trouble v_where v_read v_taped v_size v_at v_sort v_place v_sign v_number v_fault v_wrongAt v_word v_marks v_notes v_w)) (As := [.int p1, .int 0, .int 1]) (rest := []) C (ctX12_in l E N p1 0 1 r_16 hc_16) ml_X12_149 ⟨Nat.le_of_ble_eq_true rfl, Nat.le_of_ble_eq_true rfl⟩ hP hD hS [] [0, 1] 2 rfl rfl rfl rfl rfl rfl rfl hl.1 rfl (Nat.le_of_ble_eq_true rfl) ⟨Nat.zero_le _, Nat.zero_le _⟩ dX12_doorway_16 ?_
    clear hP hD hS; intro H locs hP hD hS
    refine lv_if_ne (pc := 19) (tgt := 28) hx hb dX12_doorway_19 (by decide) (fun c_19 => ?_) (fun c_19 => ?_)
    · replace hf := it_f c_19 hf
      refine lv_aload_n (pc := 28) hx hb dX12_doorway_28 rfl (lv_at hl 0 rfl) ?_
      refine lv_aload_n (pc := 29) hx hb dX12_doorway_29 rfl (lv_at hl 0 rfl) ?_
      refine r_get (pc := 30) C hP 0 rfl fl_X12_36 rfl dX12_doorway_30 ?_
      refine lv_iload_n (pc := 33) hx hb dX12_doorway_33 rfl (lv_at hl 2 rfl) ?_
      refine jnK hf (fun j44 ej44 hf => ?_)
      have hj44 : ∀ (x44_s2 : Int32) , j44 x44_s2 = some z → AT p l e (rmOf 1 22) s m args below meth c E A Q 0 0 3 [(1, .int p0)] (wX12_doorway0 E h h_tape h_far h_from h_real h_other h_kept h_set h_w h_book h_noteSort h_whose h_what h_noteIs h_fitting h_dawn h_likes h_walked h_came 0 v_trouble v_where v_read v_taped v_size v_at v_sort v_place v_sign v_number v_fault v_wrongAt v_word v_marks v_notes v_w) 44 [.int x44_s2, .ref h_w, .ref h] := by
        intro x44_s2 hf H locs ls hl hP hD hS
        rw [ej44] at hf
        replace hf := un1_s hf
        refine lv_iload_n (pc := 44) hx hb dX12_doorway_44 rfl (lv_at hl 0 rfl) ?_
        refine lv_iadd (pc := 45) hx hb dX12_doorway_45 ?_
        obtain ⟨hi_46, hf⟩ := gd_s hf
        refine r_iald (pc := 46) C hP 1 rfl hi_46 dX12_doorway_46 ?_
        obtain ⟨r_47, v_trouble_47, v_where_47, hc_47, hf⟩ := bd3 hf
        refine r_dalVi (pc := 47) (ws' := (wX12_doorway0 E h h_tape h_far h_from h_real h_other h_kept h_set h_w h_book h_noteSort h_whose h_what h_noteIs h_fitting h_dawn h_likes h_walked h_came 0 v_trouble_47 v_where_47 v_read v_taped v_size v_at v_sort v_place v_sign v_number v_fault v_wrongAt v_word v_marks v_notes v_w)) (As := [.int (v_w (x44_s2 + p0).toNatClampNeg)]) (rest := []) C (ctX12_good l E h h_tape h_far h_from h_real h_other h_kept h_set h_w h_book h_noteSort h_whose h_what h_noteIs h_fitting h_dawn h_likes h_walked h_came 0 v_trouble v_where none v_read v_taped v_size v_at v_sort v_place v_sign v_number v_fault v_wrongAt v_word v_marks v_notes N (v_w (x44_s2 + p0).toNatClampNeg) (r_47, v_trouble_47, v_where_47) hc_47) ml_X12_81 ⟨Nat.le_of_ble_eq_true rfl, Nat.le_of_ble_eq_true rfl⟩ hP hD hS 0 rfl rfl rfl [0] [2, 1] 2 rfl rfl rfl rfl rfl rfl rfl hl.1 rfl (Nat.le_of_ble_eq_true rfl) ⟨Nat.zero_le _, Nat.zero_le _⟩ dX12_doorway_47 ?_
        clear hP hD hS; intro H locs hP hD hS
        cases hf
        rw [hQ]
        exact r_iret C hr hP hD hS rfl dX12_doorway_50
      clear ej44
      refine lv_if_ne (pc := 34) (tgt := 42) hx hb dX12_doorway_34 (by decide) (fun c_34 => ?_) (fun c_34 => ?_)
      · replace hf := it_f c_34 hf
        refine lv_bipush (pc := 42) (v := 33) hx hb dX12_doorway_42 (by decide) ?_
        exact hj44 33 hf _ _ _ (lv_sub hl [1] rfl) hP hD hS
      · replace hf := it_t c_34 hf
        refine lv_bipush (pc := 37) (v := 23) hx hb dX12_doorway_37 (by decide) ?_
        refine lv_goto (pc := 39) (tgt := 44) hx hb dX12_doorway_39 (by decide) ?_
        exact hj44 23 hf _ _ _ (lv_sub hl [1] rfl) hP hD hS
    · replace hf := it_t c_19 hf
      refine lv_aload_n (pc := 22) hx hb dX12_doorway_22 rfl (lv_at hl 0 rfl) ?_
      refine lv_iconst (pc := 23) (v := 1) hx hb dX12_doorway_23 (by decide) ?_
      obtain ⟨r_24, v_trouble_24, v_where_24, hc_24, hf⟩ := bd3 hf
      refine r_dalVi (pc := 24) (ws' := (wX12_doorway0 E h h_tape h_far h_from h_real h_other h_kept h_set h_w h_book h_noteSort h_whose h_what h_noteIs h_fitting h_dawn h_likes h_walked h_came 0 v_trouble_24 v_where_24 v_read v_taped v_size v_at v_sort v_place v_sign v_number v_fault v_wrongAt v_word v_marks v_notes v_w)) (As := [.int 1]) (rest := []) C (ctX12_refused l E h h_tape h_far h_from h_real h_other h_kept h_set h_w h_book h_noteSort h_whose h_what h_noteIs h_fitting h_dawn h_likes h_walked h_came 0 v_trouble v_where none v_read v_taped v_size v_at v_sort v_place v_sign v_number v_fault v_wrongAt v_word v_marks v_notes N 1 (r_24, v_trouble_24, v_where_24) hc_24) ml_X12_77 ⟨Nat.le_of_ble_eq_true rfl, Nat.le_of_ble_eq_true rfl⟩ hP hD hS 0 rfl rfl rfl [0] [2, 1] 2 rfl rfl rfl rfl rfl rfl rfl hl.1 rfl (Nat.le_of_ble_eq_true rfl) ⟨Nat.zero_le _, Nat.zero_le _⟩ dX12_doorway_24 ?_
      clear hP hD hS; intro H locs hP hD hS
      cases hf
      rw [hQ]
      exact r_iret C hr hP hD hS rfl dX12_doorway_27
def wX12_isListener (E : EN) (h h_inn h_tape h_far h_from h_real h_other h_kept h_set h_w h_book h_noteSort h_whose h_what h_noteIs h_fitting h_dawn h_likes h_walked h_came h_inn_creak h_inn_doorA h_inn_doorB h_inn_how h_inn_lies h_inn_isCold h_inn_falls h_inn_isFull h_inn_isTold h_inn_act h_inn_what h_inn_then h_inn_met h_inn_bed h_inn_dream h_inn_listens h_inn_name h_inn_nameSort h_inn_nameNumber : Nat) (v_thrown : Int32) (v_trouble : Int32) (v_where : Int32) (v_read : Option Nat) (v_taped : Int32) (v_size : Int32) (v_at : Int32) (v_sort : Int32) (v_place : Int32) (v_sign : Int32) (v_number : Int32) (v_fault : Int32) (v_wrongAt : Int32) (v_word : Int64) (v_marks : Int32) (v_notes : Int32) (v_inn_minutes : Int32) (v_inn_rooms : Int32) (v_inn_doors : Int32) (v_inn_things : Int32) (v_inn_dreams : Int32) (v_inn_sleepers : Int32) (v_inn_listeners : Int32) (v_inn_names : Int32) : va_W := [(h, .inr (11, [.int v_thrown, .int v_trouble, .int v_where, .ref h_inn, va_rf v_read, .ref h_tape, .int v_taped, .int v_size, .int v_at, .int v_sort, .int v_place, .int v_sign, .int v_number, .int v_fault, .int v_wrongAt, .long v_word, .ref h_far, .ref h_from, .ref h_real, .ref h_other, .ref h_kept, .ref h_set, .ref h_w, .int v_marks, .int v_notes, .ref h_book, .ref h_noteSort, .ref h_whose, .ref h_what, .ref h_noteIs, .ref h_fitting, .ref h_dawn, .ref h_likes, .ref h_walked, .ref h_came])), (h_inn, .inr (10, [.int v_inn_minutes, .int v_inn_rooms, .int v_inn_doors, .int v_inn_things, .int v_inn_dreams, .int v_inn_sleepers, .int v_inn_listeners, .int v_inn_names, .ref h_inn_creak, .ref h_inn_doorA, .ref h_inn_doorB, .ref h_inn_how, .ref h_inn_lies, .ref h_inn_isCold, .ref h_inn_falls, .ref h_inn_isFull, .ref h_inn_isTold, .ref h_inn_act, .ref h_inn_what, .ref h_inn_then, .ref h_inn_met, .ref h_inn_bed, .ref h_inn_dream, .ref h_inn_listens, .ref h_inn_name, .ref h_inn_nameSort, .ref h_inn_nameNumber]))]
def fX12_isListener (N : Nat) (p0 : Int32) (v_inn_listeners : Int32) : Option Int32 := jn (un0 (some 0)) (fun j26 => if p0 < 0 then (j26 ()) else (if v_inn_listeners ≤ p0 then (j26 ()) else (some 1)))
set_option maxHeartbeats 4000000 in
set_option maxRecDepth 100000 in
theorem ctX12_isListener (l : Launch) (E : EN) (h h_inn h_tape h_far h_from h_real h_other h_kept h_set h_w h_book h_noteSort h_whose h_what h_noteIs h_fitting h_dawn h_likes h_walked h_came h_inn_creak h_inn_doorA h_inn_doorB h_inn_how h_inn_lies h_inn_isCold h_inn_falls h_inn_isFull h_inn_isTold h_inn_act h_inn_what h_inn_then h_inn_met h_inn_bed h_inn_dream h_inn_listens h_inn_name h_inn_nameSort h_inn_nameNumber : Nat) (v_thrown : Int32) (v_trouble : Int32) (v_where : Int32) (v_read : Option Nat) (v_taped : Int32) (v_size : Int32) (v_at : Int32) (v_sort : Int32) (v_place : Int32) (v_sign : Int32) (v_number : Int32) (v_fault : Int32) (v_wrongAt : Int32) (v_word : Int64) (v_marks : Int32) (v_notes : Int32) (v_inn_minutes : Int32) (v_inn_rooms : Int32) (v_inn_doors : Int32) (v_inn_things : Int32) (v_inn_dreams : Int32) (v_inn_sleepers : Int32) (v_inn_listeners : Int32) (v_inn_names : Int32) (N : Nat) (p0 : Int32) (z : Int32) (hf : fX12_isListener N p0 v_inn_listeners = some z) : CTi l E yX12_isListener cX12_isListener 2 .boolean 0 0 [.ref h, .int p0] (wX12_isListener E h h_inn h_tape h_far h_from h_real h_other h_kept h_set h_w h_book h_noteSort h_whose h_what h_noteIs h_fitting h_dawn h_likes h_walked h_came h_inn_creak h_inn_doorA h_inn_doorB h_inn_how h_inn_lies h_inn_isCold h_inn_falls h_inn_isFull h_inn_isTold h_inn_act h_inn_what h_inn_then h_inn_met h_inn_bed h_inn_dream h_inn_listens h_inn_name h_inn_nameSort h_inn_nameNumber v_thrown v_trouble v_where v_read v_taped v_size v_at v_sort v_place v_sign v_number v_fault v_wrongAt v_word v_marks v_notes v_inn_minutes v_inn_rooms v_inn_doors v_inn_things v_inn_dreams v_inn_sleepers v_inn_listeners v_inn_names) (z) (wX12_isListener E h h_inn h_tape h_far h_from h_real h_other h_kept h_set h_w h_book h_noteSort h_whose h_what h_noteIs h_fitting h_dawn h_likes h_walked h_came h_inn_creak h_inn_doorA h_inn_doorB h_inn_how h_inn_lies h_inn_isCold h_inn_falls h_inn_isFull h_inn_isTold h_inn_act h_inn_what h_inn_then h_inn_met h_inn_bed h_inn_dream h_inn_listens h_inn_name h_inn_nameSort h_inn_nameNumber v_thrown v_trouble v_where v_read v_taped v_size v_at v_sort v_place v_sign v_number v_fault v_wrongAt v_word v_marks v_notes v_inn_minutes v_inn_rooms v_inn_doors v_inn_things v_inn_dreams v_inn_sleepers v_inn_listeners v_inn_names) := by
  intro sz
  refine ct_body (by decide) (Nat.le_of_ble_eq_true rfl) ?_
  intro p e s m args below meth c A ls hAe C hr hin hP hD hS hl
  have C : CX p s m args meth c cX12_isListener RX12 2 E A := C
  have hl : lv_has ls 2 [(0, .ref h), (1, .int p0)] := hl
  have hx := C.1
  have hb := C.2.1
  rw [hAe]
  clear hAe
  obtain ⟨Q, hQ⟩ : ∃ Q, Q = MQ below (Qi E A (z) (wX12_isListener E h h_inn h_tape h_far h_from h_real h_other h_kept h_set h_w h_book h_noteSort h_whose h_what h_noteIs h_fitting h_dawn h_likes h_walked h_came h_inn_creak h_inn_doorA h_inn_doorB h_inn_how h_inn_lies h_inn_isCold h_inn_falls h_inn_isFull h_inn_isTold h_inn_act h_inn_what h_inn_then h_inn_met h_inn_bed h_inn_dream h_inn_listens h_inn_name h_inn_nameSort h_inn_nameNumber v_thrown v_trouble v_where v_read v_taped v_size v_at v_sort v_place v_sign v_number v_fault v_wrongAt v_word v_marks v_notes v_inn_minutes v_inn_rooms v_inn_doors v_inn_things v_inn_dreams v_inn_sleepers v_inn_listeners v_inn_names)) args s 0 0 A := ⟨_, rfl⟩
  rw [← hQ]
  unfold fX12_isListener at hf
  refine lv_aload_n (pc := 0) hx hb dX12_isListener_0 rfl (lv_at hl 0 rfl) ?_
  refine r_get (pc := 1) C hP 0 rfl fl_X12_358 rfl dX12_isListener_1 ?_
  refine jnK hf (fun j26 ej26 hf => ?_)
  have hj26 : j26 () = some z → AT p l e (rmOf 0 0) s m args below meth c E A Q 0 0 2 [] (wX12_isListener E h h_inn h_tape h_far h_from h_real h_other h_kept h_set h_w h_book h_noteSort h_whose h_what h_noteIs h_fitting h_dawn h_likes h_walked h_came h_inn_creak h_inn_doorA h_inn_doorB h_inn_how h_inn_lies h_inn_isCold h_inn_falls h_inn_isFull h_inn_isTold h_inn_act h_inn_what h_inn_then h_inn_met h_inn_bed h_inn_dream h_inn_listens h_inn_name h_inn_nameSort h_inn_nameNumber v_thrown v_trouble v_where v_read v_taped v_size v_at v_sort v_place v_sign v_number v_fault v_wrongAt v_word v_marks v_notes v_inn_minutes v_inn_rooms v_inn_doors v_inn_things v_inn_dreams v_inn_sleepers v_inn_listeners v_inn_names) 26 [] := by
    intro  hf H locs ls hl hP hD hS
    rw [ej26] at hf
    replace hf := un0_s hf
    refine lv_iconst (pc := 26) (v := 0) hx hb dX12_isListener_26 (by decide) ?_
    cases hf
    rw [hQ]
    exact r_zret C hr hP hD hS (Or.inl rfl) rfl dX12_isListener_27
  clear ej26
  refine lv_ifnull (pc := 4) hx hb dX12_isListener_4 ?_
  refine lv_iload_n (pc := 7) hx hb dX12_isListener_7 rfl (lv_at hl 1 rfl) ?_
  refine lv_if_lt (pc := 8) (tgt := 26) hx hb dX12_isListener_8 (by decide) (fun c_8 => ?_) (fun c_8 => ?_)
  · replace hf := it_t c_8 hf
    exact hj26  hf _ _ _ (lv_sub hl [] rfl) hP hD hS
  · replace hf := it_f c_8 hf
    refine lv_iload_n (pc := 11) hx hb dX12_isListener_11 rfl (lv_at hl 1 rfl) ?_
    refine lv_aload_n (pc := 12) hx hb dX12_isListener_12 rfl (lv_at hl 0 rfl) ?_
    refine r_get (pc := 13) C hP 0 rfl fl_X12_358 rfl dX12_isListener_13 ?_
    refine r_get (pc := 16) C hP 1 rfl fl_X12_346 rfl dX12_isListener_16 ?_
    refine lv_icmp_ge (pc := 19) (tgt := 26) hx hb dX12_isListener_19 (by decide) (fun c_19 => ?_) (fun c_19 => ?_)
    · replace hf := it_t c_19 hf
      exact hj26  hf _ _ _ (lv_sub hl [] rfl) hP hD hS
    · replace hf := it_f c_19 hf
      refine lv_iconst (pc := 22) (v := 1) hx hb dX12_isListener_22 (by decide) ?_
      refine lv_goto (pc := 23) (tgt := 27) hx hb dX12_isListener_23 (by decide) ?_
      cases hf
      rw [hQ]
      exact r_zret C hr hP hD hS (Or.inr rfl) rfl dX12_isListener_27
def wX12_isListener0 (E : EN) (h h_tape h_far h_from h_real h_other h_kept h_set h_w h_book h_noteSort h_whose h_what h_noteIs h_fitting h_dawn h_likes h_walked h_came : Nat) (v_thrown : Int32) (v_trouble : Int32) (v_where : Int32) (v_read : Option Nat) (v_taped : Int32) (v_size : Int32) (v_at : Int32) (v_sort : Int32) (v_place : Int32) (v_sign : Int32) (v_number : Int32) (v_fault : Int32) (v_wrongAt : Int32) (v_word : Int64) (v_marks : Int32) (v_notes : Int32) : va_W := [(h, .inr (11, [.int v_thrown, .int v_trouble, .int v_where, .null, va_rf v_read, .ref h_tape, .int v_taped, .int v_size, .int v_at, .int v_sort, .int v_place, .int v_sign, .int v_number, .int v_fault, .int v_wrongAt, .long v_word, .ref h_far, .ref h_from, .ref h_real, .ref h_other, .ref h_kept, .ref h_set, .ref h_w, .int v_marks, .int v_notes, .ref h_book, .ref h_noteSort, .ref h_whose, .ref h_what, .ref h_noteIs, .ref h_fitting, .ref h_dawn, .ref h_likes, .ref h_walked, .ref h_came]))]
def fX12_isListener0 (N : Nat) : Option Int32 := jn (un0 (some 0)) (fun j26 => j26 ())
set_option maxHeartbeats 4000000 in
set_option maxRecDepth 100000 in
theorem ctX12_isListener0 (l : Launch) (E : EN) (h h_tape h_far h_from h_real h_other h_kept h_set h_w h_book h_noteSort h_whose h_what h_noteIs h_fitting h_dawn h_likes h_walked h_came : Nat) (v_thrown : Int32) (v_trouble : Int32) (v_where : Int32) (v_read : Option Nat) (v_taped : Int32) (v_size : Int32) (v_at : Int32) (v_sort : Int32) (v_place : Int32) (v_sign : Int32) (v_number : Int32) (v_fault : Int32) (v_wrongAt : Int32) (v_word : Int64) (v_marks : Int32) (v_notes : Int32) (N : Nat) (p0 : Int32) (z : Int32) (hf : fX12_isListener0 N  = some z) : CTi l E yX12_isListener cX12_isListener 2 .boolean 0 0 [.ref h, .int p0] (wX12_isListener0 E h h_tape h_far h_from h_real h_other h_kept h_set h_w h_book h_noteSort h_whose h_what h_noteIs h_fitting h_dawn h_likes h_walked h_came v_thrown v_trouble v_where v_read v_taped v_size v_at v_sort v_place v_sign v_number v_fault v_wrongAt v_word v_marks v_notes) (z) (wX12_isListener0 E h h_tape h_far h_from h_real h_other h_kept h_set h_w h_book h_noteSort h_whose h_what h_noteIs h_fitting h_dawn h_likes h_walked h_came v_thrown v_trouble v_where v_read v_taped v_size v_at v_sort v_place v_sign v_number v_fault v_wrongAt v_word v_marks v_notes) := by
  intro sz
  refine ct_body (by decide) (Nat.le_of_ble_eq_true rfl) ?_
  intro p e s m args below meth c A ls hAe C hr hin hP hD hS hl
  have C : CX p s m args meth c cX12_isListener RX12 2 E A := C
  have hl : lv_has ls 2 [(0, .ref h), (1, .int p0)] := hl
  have hx := C.1
  have hb := C.2.1
  rw [hAe]
  clear hAe
  obtain ⟨Q, hQ⟩ : ∃ Q, Q = MQ below (Qi E A (z) (wX12_isListener0 E h h_tape h_far h_from h_real h_other h_kept h_set h_w h_book h_noteSort h_whose h_what h_noteIs h_fitting h_dawn h_likes h_walked h_came v_thrown v_trouble v_where v_read v_taped v_size v_at v_sort v_place v_sign v_number v_fault v_wrongAt v_word v_marks v_notes)) args s 0 0 A := ⟨_, rfl⟩
  rw [← hQ]
  unfold fX12_isListener0 at hf
  refine lv_aload_n (pc := 0) hx hb dX12_isListener_0 rfl (lv_at hl 0 rfl) ?_
  refine r_get (pc := 1) C hP 0 rfl fl_X12_358 rfl dX12_isListener_1 ?_
  refine jnK hf (fun j26 ej26 hf => ?_)
  have hj26 : j26 () = some z → AT p l e (rmOf 0 0) s m args below meth c E A Q 0 0 2 [] (wX12_isListener0 E h h_tape h_far h_from h_real h_other h_kept h_set h_w h_book h_noteSort h_whose h_what h_noteIs h_fitting h_dawn h_likes h_walked h_came v_thrown v_trouble v_where v_read v_taped v_size v_at v_sort v_place v_sign v_number v_fault v_wrongAt v_word v_marks v_notes) 26 [] := by
    intro  hf H locs ls hl hP hD hS
    rw [ej26] at hf
    replace hf := un0_s hf
    refine lv_iconst (pc := 26) (v := 0) hx hb dX12_isListener_26 (by decide) ?_
    cases hf
    rw [hQ]
    exact r_zret C hr hP hD hS (Or.inl rfl) rfl dX12_isListener_27
  clear ej26
  refine lv_ifnullN (pc := 4) (tgt := 26) hx hb dX12_isListener_4 (by decide) ?_
  exact hj26  hf _ _ _ (lv_sub hl [] rfl) hP hD hS
def wX12_hears (E : EN) (h h_tape h_far h_from h_real h_other h_kept h_set h_w h_book h_noteSort h_whose h_what h_noteIs h_fitting h_dawn h_likes h_walked h_came : Nat) (v_thrown : Int32) (v_trouble : Int32) (v_where : Int32) (v_inn : Option Nat) (v_read : Option Nat) (v_taped : Int32) (v_size : Int32) (v_at : Int32) (v_sort : Int32) (v_place : Int32) (v_sign : Int32) (v_number : Int32) (v_fault : Int32) (v_wrongAt : Int32) (v_word : Int64) (v_marks : Int32) (v_notes : Int32) (v_w : Nat → Int32) : va_W := [(h, .inr (11, [.int v_thrown, .int v_trouble, .int v_where, va_rf v_inn, va_rf v_read, .ref h_tape, .int v_taped, .int v_size, .int v_at, .int v_sort, .int v_place, .int v_sign, .int v_number, .int v_fault, .int v_wrongAt, .long v_word, .ref h_far, .ref h_from, .ref h_real, .ref h_other, .ref h_kept, .ref h_set, .ref h_w, .int v_marks, .int v_notes, .ref h_book, .ref h_noteSort, .ref h_whose, .ref h_what, .ref h_noteIs, .ref h_fitting, .ref h_dawn, .ref h_likes, .ref h_walked, .ref h_came])), (h_w, aI E 51 v_w)]
def fX12_hears (N : Nat) (p0 : Int32) (p1 : Int32) (v_w : Nat → Int32) : Option Int32 := gd ((43 + (2 * p0)) + ((p1 - 1) / 20)) 51 ((fX12_has N (v_w ((43 + (2 * p0)) + ((p1 - 1) / 20)).toNatClampNeg) ((p1 - 1) - (p1 - 1) / 20 * 20)).bind (un1 fun (r_24 : Int32) => zg r_24 (some r_24)))
set_option maxHeartbeats 4000000 in
set_option maxRecDepth 100000 in
theorem ctX12_hears (l : Launch) (E : EN) (h h_tape h_far h_from h_real h_other h_kept h_set h_w h_book h_noteSort h_whose h_what h_noteIs h_fitting h_dawn h_likes h_walked h_came : Nat) (v_thrown : Int32) (v_trouble : Int32) (v_where : Int32) (v_inn : Option Nat) (v_read : Option Nat) (v_taped : Int32) (v_size : Int32) (v_at : Int32) (v_sort : Int32) (v_place : Int32) (v_sign : Int32) (v_number : Int32) (v_fault : Int32) (v_wrongAt : Int32) (v_word : Int64) (v_marks : Int32) (v_notes : Int32) (v_w : Nat → Int32) (N : Nat) (p0 : Int32) (p1 : Int32) (z : Int32) (hf : fX12_hears N p0 p1 v_w = some z) : CTi l E yX12_hears cX12_hears 3 .boolean 1 21 [.ref h, .int p0, .int p1] (wX12_hears E h h_tape h_far h_from h_real h_other h_kept h_set h_w h_book h_noteSort h_whose h_what h_noteIs h_fitting h_dawn h_likes h_walked h_came v_thrown v_trouble v_where v_inn v_read v_taped v_size v_at v_sort v_place v_sign v_number v_fault v_wrongAt v_word v_marks v_notes v_w) (z) (wX12_hears E h h_tape h_far h_from h_real h_other h_kept h_set h_w h_book h_noteSort h_whose h_what h_noteIs h_fitting h_dawn h_likes h_walked h_came v_thrown v_trouble v_where v_inn v_read v_taped v_size v_at v_sort v_place v_sign v_number v_fault v_wrongAt v_word v_marks v_notes v_w) := by
  intro sz
  refine ct_body (by decide) (Nat.le_of_ble_eq_true rfl) ?_
  intro p e s m args below meth c A ls hAe C hr hin hP hD hS hl
  have C : CX p s m args meth c cX12_hears RX12 3 E A := C
  have hl : lv_has ls 3 [(0, .ref h), (1, .int p0), (2, .int p1)] := hl
  have hx := C.1
  have hb := C.2.1
  rw [hAe]
  clear hAe
  obtain ⟨Q, hQ⟩ : ∃ Q, Q = MQ below (Qi E A (z) (wX12_hears E h h_tape h_far h_from h_real h_other h_kept h_set h_w h_book h_noteSort h_whose h_what h_noteIs h_fitting h_dawn h_likes h_walked h_came v_thrown v_trouble v_where v_inn v_read v_taped v_size v_at v_sort v_place v_sign v_number v_fault v_wrongAt v_word v_marks v_notes v_w)) args s 0 0 A := ⟨_, rfl⟩
  rw [← hQ]
  unfold fX12_hears at hf
  refine lv_aload_n (pc := 0) hx hb dX12_hears_0 rfl (lv_at hl 0 rfl) ?_
  refine r_get (pc := 1) C hP 0 rfl fl_X12_36 rfl dX12_hears_1 ?_
  refine lv_bipush (pc := 4) (v := 43) hx hb dX12_hears_4 (by decide) ?_
  refine lv_iconst (pc := 6) (v := 2) hx hb dX12_hears_6 (by decide) ?_
  refine lv_iload_n (pc := 7) hx hb dX12_hears_7 rfl (lv_at hl 1 rfl) ?_
  refine lv_imul (pc := 8) hx hb dX12_hears_8 ?_
  refine lv_iadd (pc := 9) hx hb dX12_hears_9 ?_
  refine lv_iload_n (pc := 10) hx hb dX12_hears_10 rfl (lv_at hl 2 rfl) ?_
  refine lv_iconst (pc := 11) (v := 1) hx hb dX12_hears_11 (by decide) ?_
  refine lv_isub (pc := 12) hx hb dX12_hears_12 ?_
  refine lv_bipush (pc := 13) (v := 20) hx hb dX12_hears_13 (by decide) ?_
  refine lv_idiv (pc := 15) hx hb dX12_hears_15 (by decide) ?_
  refine lv_iadd (pc := 16) hx hb dX12_hears_16 ?_
  obtain ⟨hi_17, hf⟩ := gd_s hf
  refine r_iald (pc := 17) C hP 1 rfl hi_17 dX12_hears_17 ?_
  refine lv_iload_n (pc := 18) hx hb dX12_hears_18 rfl (lv_at hl 2 rfl) ?_
  refine lv_iconst (pc := 19) (v := 1) hx hb dX12_hears_19 (by decide) ?_
  refine lv_isub (pc := 20) hx hb dX12_hears_20 ?_
  refine lv_bipush (pc := 21) (v := 20) hx hb dX12_hears_21 (by decide) ?_
  refine lv_irem (pc := 23) hx hb dX12_hears_23 (by decide) ?_
  obtain ⟨r_24, hc_24, hf⟩ := bd1 hf
  refine r_dalSi (pc := 24) (Cn := "") (h := 0) (ws' := (wX12_hears E h h_tape h_far h_from h_real h_other h_kept h_set h_w h_book h_noteSort h_whose h_what h_noteIs h_fitting h_dawn h_likes h_walked h_came v_thrown v_trouble v_where v_inn v_read v_taped v_size v_at v_sort v_place v_sign v_number v_fault v_wrongAt v_word v_marks v_notes v_w)) (As := [.int (v_w ((43 + (2 * p0)) + ((p1 - 1) / 20)).toNatClampNeg), .int ((p1 - 1) - (p1 - 1) / 20 * 20)]) (rest := []) C (ctX12_has l E N (v_w ((43 + (2 * p0)) + ((p1 - 1) / 20)).toNatClampNeg) ((p1 - 1) - (p1 - 1) / 20 * 20) r_24 hc_24) ml_X12_372 ⟨Nat.le_of_ble_eq_true rfl, Nat.le_of_ble_eq_true rfl⟩ hP hD hS [] [0, 1] 2 rfl rfl rfl rfl rfl rfl rfl hl.1 rfl (Nat.le_of_ble_eq_true rfl) ⟨Nat.zero_le _, Nat.zero_le _⟩ dX12_hears_24 ?_
  clear hP hD hS; intro H locs hP hD hS
  obtain ⟨hz_27, hf⟩ := zg_s hf
  cases hf
  rw [hQ]
  exact r_zret C hr hP hD hS hz_27 rfl dX12_hears_27
def wX12_heard (E : EN) (h h_inn h_tape h_far h_from h_real h_other h_kept h_set h_w h_book h_noteSort h_whose h_what h_noteIs h_fitting h_dawn h_likes h_walked h_came h_inn_creak h_inn_doorA h_inn_doorB h_inn_how h_inn_lies h_inn_isCold h_inn_falls h_inn_isFull h_inn_isTold h_inn_act h_inn_what h_inn_then h_inn_met h_inn_bed h_inn_dream h_inn_listens h_inn_name h_inn_nameSort h_inn_nameNumber : Nat) (v_thrown : Int32) (v_trouble : Int32) (v_where : Int32) (v_read : Option Nat) (v_taped : Int32) (v_size : Int32) (v_at : Int32) (v_sort : Int32) (v_place : Int32) (v_sign : Int32) (v_number : Int32) (v_fault : Int32) (v_wrongAt : Int32) (v_word : Int64) (v_marks : Int32) (v_notes : Int32) (v_inn_minutes : Int32) (v_inn_rooms : Int32) (v_inn_doors : Int32) (v_inn_things : Int32) (v_inn_dreams : Int32) (v_inn_sleepers : Int32) (v_inn_listeners : Int32) (v_inn_names : Int32) (v_w : Nat → Int32) : va_W := [(h, .inr (11, [.int v_thrown, .int v_trouble, .int v_where, .ref h_inn, va_rf v_read, .ref h_tape, .int v_taped, .int v_size, .int v_at, .int v_sort, .int v_place, .int v_sign, .int v_number, .int v_fault, .int v_wrongAt, .long v_word, .ref h_far, .ref h_from, .ref h_real, .ref h_other, .ref h_kept, .ref h_set, .ref h_w, .int v_marks, .int v_notes, .ref h_book, .ref h_noteSort, .ref h_whose, .ref h_what, .ref h_noteIs, .ref h_fitting, .ref h_dawn, .ref h_likes, .ref h_walked, .ref h_came])), (h_inn, .inr (10, [.int v_inn_minutes, .int v_inn_rooms, .int v_inn_doors, .int v_inn_things, .int v_inn_dreams, .int v_inn_sleepers, .int v_inn_listeners, .int v_inn_names, .ref h_inn_creak, .ref h_inn_doorA, .ref h_inn_doorB, .ref h_inn_how, .ref h_inn_lies, .ref h_inn_isCold, .ref h_inn_falls, .ref h_inn_isFull, .ref h_inn_isTold, .ref h_inn_act, .ref h_inn_what, .ref h_inn_then, .ref h_inn_met, .ref h_inn_bed, .ref h_inn_dream, .ref h_inn_listens, .ref h_inn_name, .ref h_inn_nameSort, .ref h_inn_nameNumber])), (h_w, aI E 51 v_w)]
def fX12_heard (N : Nat) (p0 : Int32) (p1 : Int32) (v_inn_listeners : Int32) (v_w : Nat → Int32) : Option (Int32 × Int32 × Int32 × Int32) := (fX12_isListener N p0 v_inn_listeners).bind (un1 fun (r_7 : Int32) => jn (un0 ((fX12_refused N 1).bind (un3 fun (r_51 : Int32) (v_trouble_51 : Int32) (v_where_51 : Int32) => some (r_51, 0, v_trouble_51, v_where_51)))) (fun j49 => if r_7 = 0 then (j49 ()) else (gd 49 51 ((fX12_in N p1 1 (v_w (49 : Int32).toNatClampNeg)).bind (un1 fun (r_22 : Int32) => if r_22 = 0 then (j49 ()) else ((fX12_hears N p0 p1 v_w).bind (un1 fun (r_32 : Int32) => jn (un1 fun (x43_s1 : Int32) => (fX12_good N x43_s1).bind (un3 fun (r_43 : Int32) (v_trouble_43 : Int32) (v_where_43 : Int32) => some (r_43, 0, v_trouble_43, v_where_43))) (fun j43 => if r_32 = 0 then (j43 0) else (j43 1)))))))))
set_option maxHeartbeats 4000000 in
set_option maxRecDepth 100000 in
theorem ctX12_heard (l : Launch) (E : EN) (h h_inn h_tape h_far h_from h_real h_other h_kept h_set h_w h_book h_noteSort h_whose h_what h_noteIs h_fitting h_dawn h_likes h_walked h_came h_inn_creak h_inn_doorA h_inn_doorB h_inn_how h_inn_lies h_inn_isCold h_inn_falls h_inn_isFull h_inn_isTold h_inn_act h_inn_what h_inn_then h_inn_met h_inn_bed h_inn_dream h_inn_listens h_inn_name h_inn_nameSort h_inn_nameNumber : Nat) (v_thrown : Int32) (v_trouble : Int32) (v_where : Int32) (v_read : Option Nat) (v_taped : Int32) (v_size : Int32) (v_at : Int32) (v_sort : Int32) (v_place : Int32) (v_sign : Int32) (v_number : Int32) (v_fault : Int32) (v_wrongAt : Int32) (v_word : Int64) (v_marks : Int32) (v_notes : Int32) (v_inn_minutes : Int32) (v_inn_rooms : Int32) (v_inn_doors : Int32) (v_inn_things : Int32) (v_inn_dreams : Int32) (v_inn_sleepers : Int32) (v_inn_listeners : Int32) (v_inn_names : Int32) (v_w : Nat → Int32) (N : Nat) (p0 : Int32) (p1 : Int32) (z : Int32 × Int32 × Int32 × Int32) (hf : fX12_heard N p0 p1 v_inn_listeners v_w = some z) : CTi l E yX12_heard cX12_heard 3 .int 2 43 [.ref h, .int p0, .int p1] (wX12_heard E h h_inn h_tape h_far h_from h_real h_other h_kept h_set h_w h_book h_noteSort h_whose h_what h_noteIs h_fitting h_dawn h_likes h_walked h_came h_inn_creak h_inn_doorA h_inn_doorB h_inn_how h_inn_lies h_inn_isCold h_inn_falls h_inn_isFull h_inn_isTold h_inn_act h_inn_what h_inn_then h_inn_met h_inn_bed h_inn_dream h_inn_listens h_inn_name h_inn_nameSort h_inn_nameNumber v_thrown v_trouble v_where v_read v_taped v_size v_at v_sort v_place v_sign v_number v_fault v_wrongAt v_word v_marks v_notes v_inn_minutes v_inn_rooms v_inn_doors v_inn_things v_inn_dreams v_inn_sleepers v_inn_listeners v_inn_names v_w) (z.1) (wX12_heard E h h_inn h_tape h_far h_from h_real h_other h_kept h_set h_w h_book h_noteSort h_whose h_what h_noteIs h_fitting h_dawn h_likes h_walked h_came h_inn_creak h_inn_doorA h_inn_doorB h_inn_how h_inn_lies h_inn_isCold h_inn_falls h_inn_isFull h_inn_isTold h_inn_act h_inn_what h_inn_then h_inn_met h_inn_bed h_inn_dream h_inn_listens h_inn_name h_inn_nameSort h_inn_nameNumber z.2.1 z.2.2.1 z.2.2.2 v_read v_taped v_size v_at v_sort v_place v_sign v_number v_fault v_wrongAt v_word v_marks v_notes v_inn_minutes v_inn_rooms v_inn_doors v_inn_things v_inn_dreams v_inn_sleepers v_inn_listeners v_inn_names v_w) := by
  intro sz
  refine ct_body (by decide) (Nat.le_of_ble_eq_true rfl) ?_
  intro p e s m args below meth c A ls hAe C hr hin hP hD hS hl
  have C : CX p s m args meth c cX12_heard RX12 3 E A := C
  have hl : lv_has ls 3 [(0, .ref h), (1, .int p0), (2, .int p1)] := hl
  have hx := C.1
  have hb := C.2.1
  rw [hAe]
  clear hAe
  obtain ⟨Q, hQ⟩ : ∃ Q, Q = MQ below (Qi E A (z.1) (wX12_heard E h h_inn h_tape h_far h_from h_real h_other h_kept h_set h_w h_book h_noteSort h_whose h_what h_noteIs h_fitting h_dawn h_likes h_walked h_came h_inn_creak h_inn_doorA h_inn_doorB h_inn_how h_inn_lies h_inn_isCold h_inn_falls h_inn_isFull h_inn_isTold h_inn_act h_inn_what h_inn_then h_inn_met h_inn_bed h_inn_dream h_inn_listens h_inn_name h_inn_nameSort h_inn_nameNumber z.2.1 z.2.2.1 z.2.2.2 v_read v_taped v_size v_at v_sort v_place v_sign v_number v_fault v_wrongAt v_word v_marks v_notes v_inn_minutes v_inn_rooms v_inn_doors v_inn_things v_inn_dreams v_inn_sleepers v_inn_listeners v_inn_names v_w)) args s 0 0 A := ⟨_, rfl⟩
  rw [← hQ]
  unfold fX12_heard at hf
  refine lv_aload_n (pc := 0) hx hb dX12_heard_0 rfl (lv_at hl 0 rfl) ?_
  refine lv_iconst (pc := 1) (v := 0) hx hb dX12_heard_1 (by decide) ?_
  refine r_put (pc := 2) (ws' := (wX12_heard E h h_inn h_tape h_far h_from h_real h_other h_kept h_set h_w h_book h_noteSort h_whose h_what h_noteIs h_fitting h_dawn h_likes h_walked h_came h_inn_creak h_inn_doorA h_inn_doorB h_inn_how h_inn_lies h_inn_isCold h_inn_falls h_inn_isFull h_inn_isTold h_inn_act h_inn_what h_inn_then h_inn_met h_inn_bed h_inn_dream h_inn_listens h_inn_name h_inn_nameSort h_inn_nameNumber 0 v_trouble v_where v_read v_taped v_size v_at v_sort v_place v_sign v_number v_fault v_wrongAt v_word v_marks v_notes v_inn_minutes v_inn_rooms v_inn_doors v_inn_things v_inn_dreams v_inn_sleepers v_inn_listeners v_inn_names v_w)) C hP hD hS 0 rfl fl_X12_71 rfl rfl (Nat.le_of_ble_eq_true rfl) rfl dX12_heard_2 ?_
  clear hP hD hS; intro H locs hP hD hS
  refine lv_aload_n (pc := 5) hx hb dX12_heard_5 rfl (lv_at hl 0 rfl) ?_
  refine lv_iload_n (pc := 6) hx hb dX12_heard_6 rfl (lv_at hl 1 rfl) ?_
  obtain ⟨r_7, hc_7, hf⟩ := bd1 hf
  refine r_dalVi (pc := 7) (ws' := (wX12_heard E h h_inn h_tape h_far h_from h_real h_other h_kept h_set h_w h_book h_noteSort h_whose h_what h_noteIs h_fitting h_dawn h_likes h_walked h_came h_inn_creak h_inn_doorA h_inn_doorB h_inn_how h_inn_lies h_inn_isCold h_inn_falls h_inn_isFull h_inn_isTold h_inn_act h_inn_what h_inn_then h_inn_met h_inn_bed h_inn_dream h_inn_listens h_inn_name h_inn_nameSort h_inn_nameNumber 0 v_trouble v_where v_read v_taped v_size v_at v_sort v_place v_sign v_number v_fault v_wrongAt v_word v_marks v_notes v_inn_minutes v_inn_rooms v_inn_doors v_inn_things v_inn_dreams v_inn_sleepers v_inn_listeners v_inn_names v_w)) (As := [.int p0]) (rest := []) C (ctX12_isListener l E h h_inn h_tape h_far h_from h_real h_other h_kept h_set h_w h_book h_noteSort h_whose h_what h_noteIs h_fitting h_dawn h_likes h_walked h_came h_inn_creak h_inn_doorA h_inn_doorB h_inn_how h_inn_lies h_inn_isCold h_inn_falls h_inn_isFull h_inn_isTold h_inn_act h_inn_what h_inn_then h_inn_met h_inn_bed h_inn_dream h_inn_listens h_inn_name h_inn_nameSort h_inn_nameNumber 0 v_trouble v_where v_read v_taped v_size v_at v_sort v_place v_sign v_number v_fault v_wrongAt v_word v_marks v_notes v_inn_minutes v_inn_rooms v_inn_doors v_inn_things v_inn_dreams v_inn_sleepers v_inn_listeners v_inn_names N p0 r_7 hc_7) ml_X12_436 ⟨Nat.le_of_ble_eq_true rfl, Nat.le_of_ble_eq_true rfl⟩ hP hD hS 0 rfl rfl rfl [0, 1] [3, 4, 2] 3 rfl rfl rfl rfl rfl rfl rfl hl.1 rfl (Nat.le_of_ble_eq_true rfl) ⟨Nat.zero_le _, Nat.zero_le _⟩ dX12_heard_7 ?_
  clear hP hD hS; intro H locs hP hD hS
  refine jnK hf (fun j49 ej49 hf => ?_)
  have hj49 : j49 () = some z → AT p l e (rmOf 2 43) s m args below meth c E A Q 0 0 3 [(0, .ref h)] (wX12_heard E h h_inn h_tape h_far h_from h_real h_other h_kept h_set h_w h_book h_noteSort h_whose h_what h_noteIs h_fitting h_dawn h_likes h_walked h_came h_inn_creak h_inn_doorA h_inn_doorB h_inn_how h_inn_lies h_inn_isCold h_inn_falls h_inn_isFull h_inn_isTold h_inn_act h_inn_what h_inn_then h_inn_met h_inn_bed h_inn_dream h_inn_listens h_inn_name h_inn_nameSort h_inn_nameNumber 0 v_trouble v_where v_read v_taped v_size v_at v_sort v_place v_sign v_number v_fault v_wrongAt v_word v_marks v_notes v_inn_minutes v_inn_rooms v_inn_doors v_inn_things v_inn_dreams v_inn_sleepers v_inn_listeners v_inn_names v_w) 49 [] := by
    intro  hf H locs ls hl hP hD hS
    rw [ej49] at hf
    replace hf := un0_s hf
    refine lv_aload_n (pc := 49) hx hb dX12_heard_49 rfl (lv_at hl 0 rfl) ?_
    refine lv_iconst (pc := 50) (v := 1) hx hb dX12_heard_50 (by decide) ?_
    obtain ⟨r_51, v_trouble_51, v_where_51, hc_51, hf⟩ := bd3 hf
    refine r_dalVi (pc := 51) (ws' := (wX12_heard E h h_inn h_tape h_far h_from h_real h_other h_kept h_set h_w h_book h_noteSort h_whose h_what h_noteIs h_fitting h_dawn h_likes h_walked h_came h_inn_creak h_inn_doorA h_inn_doorB h_inn_how h_inn_lies h_inn_isCold h_inn_falls h_inn_isFull h_inn_isTold h_inn_act h_inn_what h_inn_then h_inn_met h_inn_bed h_inn_dream h_inn_listens h_inn_name h_inn_nameSort h_inn_nameNumber 0 v_trouble_51 v_where_51 v_read v_taped v_size v_at v_sort v_place v_sign v_number v_fault v_wrongAt v_word v_marks v_notes v_inn_minutes v_inn_rooms v_inn_doors v_inn_things v_inn_dreams v_inn_sleepers v_inn_listeners v_inn_names v_w)) (As := [.int 1]) (rest := []) C (ctX12_refused l E h h_tape h_far h_from h_real h_other h_kept h_set h_w h_book h_noteSort h_whose h_what h_noteIs h_fitting h_dawn h_likes h_walked h_came 0 v_trouble v_where (some h_inn) v_read v_taped v_size v_at v_sort v_place v_sign v_number v_fault v_wrongAt v_word v_marks v_notes N 1 (r_51, v_trouble_51, v_where_51) hc_51) ml_X12_77 ⟨Nat.le_of_ble_eq_true rfl, Nat.le_of_ble_eq_true rfl⟩ hP hD hS 0 rfl rfl rfl [0] [3, 1, 2] 3 rfl rfl rfl rfl rfl rfl rfl hl.1 rfl (Nat.le_of_ble_eq_true rfl) ⟨Nat.zero_le _, Nat.zero_le _⟩ dX12_heard_51 ?_
    clear hP hD hS; intro H locs hP hD hS
    cases hf
    rw [hQ]
    exact r_iret C hr hP hD hS rfl dX12_heard_54
  clear ej49
  refine lv_if_eq (pc := 10) (tgt := 49) hx hb dX12_heard_10 (by decide) (fun c_10 => ?_) (fun c_10 => ?_)
  · replace hf := it_t c_10 hf
    exact hj49  hf _ _ _ (lv_sub hl [0] rfl) hP hD hS
  · replace hf := it_f c_10 hf
    refine lv_iload_n (pc := 13) hx hb dX12_heard_13 rfl (lv_at hl 2 rfl) ?_
    refine lv_iconst (pc := 14) (v := 1) hx hb dX12_heard_14 (by decide) ?_
    refine lv_aload_n (pc := 15) hx hb dX12_heard_15 rfl (lv_at hl 0 rfl) ?_
    refine r_get (pc := 16) C hP 0 rfl fl_X12_36 rfl dX12_heard_16 ?_
    refine lv_bipush (pc := 19) (v := 49) hx hb dX12_heard_19 (by decide) ?_
    obtain ⟨hi_21, hf⟩ := gd_s hf
    refine r_iald (pc := 21) C hP 2 rfl hi_21 dX12_heard_21 ?_
    obtain ⟨r_22, hc_22, hf⟩ := bd1 hf
    refine r_dalSi (pc := 22) (Cn := "") (h := 0) (ws' := (wX12_heard E h h_inn h_tape h_far h_from h_real h_other h_kept h_set h_w h_book h_noteSort h_whose h_what h_noteIs h_fitting h_dawn h_likes h_walked h_came h_inn_creak h_inn_doorA h_inn_doorB h_inn_how h_inn_lies h_inn_isCold h_inn_falls h_inn_isFull h_inn_isTold h_inn_act h_inn_what h_inn_then h_inn_met h_inn_bed h_inn_dream h_inn_listens h_inn_name h_inn_nameSort h_inn_nameNumber 0 v_trouble v_where v_read v_taped v_size v_at v_sort v_place v_sign v_number v_fault v_wrongAt v_word v_marks v_notes v_inn_minutes v_inn_rooms v_inn_doors v_inn_things v_inn_dreams v_inn_sleepers v_inn_listeners v_inn_names v_w)) (As := [.int p1, .int 1, .int (v_w (49 : Int32).toNatClampNeg)]) (rest := []) C (ctX12_in l E N p1 1 (v_w (49 : Int32).toNatClampNeg) r_22 hc_22) ml_X12_149 ⟨Nat.le_of_ble_eq_true rfl, Nat.le_of_ble_eq_true rfl⟩ hP hD hS [] [0, 1, 2] 3 rfl rfl rfl rfl rfl rfl rfl hl.1 rfl (Nat.le_of_ble_eq_true rfl) ⟨Nat.zero_le _, Nat.zero_le _⟩ dX12_heard_22 ?_
    clear hP hD hS; intro H locs hP hD hS
    refine lv_if_eq (pc := 25) (tgt := 49) hx hb dX12_heard_25 (by decide) (fun c_25 => ?_) (fun c_25 => ?_)
    · replace hf := it_t c_25 hf
      exact hj49  hf _ _ _ (lv_sub hl [0] rfl) hP hD hS
    · replace hf := it_f c_25 hf
      refine lv_aload_n (pc := 28) hx hb dX12_heard_28 rfl (lv_at hl 0 rfl) ?_
      refine lv_aload_n (pc := 29) hx hb dX12_heard_29 rfl (lv_at hl 0 rfl) ?_
      refine lv_iload_n (pc := 30) hx hb dX12_heard_30 rfl (lv_at hl 1 rfl) ?_
      refine lv_iload_n (pc := 31) hx hb dX12_heard_31 rfl (lv_at hl 2 rfl) ?_
      obtain ⟨r_32, hc_32, hf⟩ := bd1 hf
      refine r_dalVi (pc := 32) (ws' := (wX12_heard E h h_inn h_tape h_far h_from h_real h_other h_kept h_set h_w h_book h_noteSort h_whose h_what h_noteIs h_fitting h_dawn h_likes h_walked h_came h_inn_creak h_inn_doorA h_inn_doorB h_inn_how h_inn_lies h_inn_isCold h_inn_falls h_inn_isFull h_inn_isTold h_inn_act h_inn_what h_inn_then h_inn_met h_inn_bed h_inn_dream h_inn_listens h_inn_name h_inn_nameSort h_inn_nameNumber 0 v_trouble v_where v_read v_taped v_size v_at v_sort v_place v_sign v_number v_fault v_wrongAt v_word v_marks v_notes v_inn_minutes v_inn_rooms v_inn_doors v_inn_things v_inn_dreams v_inn_sleepers v_inn_listeners v_inn_names v_w)) (As := [.int p0, .int p1]) (rest := [.ref h]) C (ctX12_hears l E h h_tape h_far h_from h_real h_other h_kept h_set h_w h_book h_noteSort h_whose h_what h_noteIs h_fitting h_dawn h_likes h_walked h_came 0 v_trouble v_where (some h_inn) v_read v_taped v_size v_at v_sort v_place v_sign v_number v_fault v_wrongAt v_word v_marks v_notes v_w N p0 p1 r_32 hc_32) ml_X12_439 ⟨Nat.le_of_ble_eq_true rfl, Nat.le_of_ble_eq_true rfl⟩ hP hD hS 0 rfl rfl rfl [0, 2] [3, 1, 4] 3 rfl rfl rfl rfl rfl rfl rfl hl.1 rfl (Nat.le_of_ble_eq_true rfl) ⟨Nat.zero_le _, Nat.zero_le _⟩ dX12_heard_32 ?_
      clear hP hD hS; intro H locs hP hD hS
      refine jnK hf (fun j43 ej43 hf => ?_)
      have hj43 : ∀ (x43_s1 : Int32) , j43 x43_s1 = some z → AT p l e (rmOf 2 43) s m args below meth c E A Q 0 0 3 [] (wX12_heard E h h_inn h_tape h_far h_from h_real h_other h_kept h_set h_w h_book h_noteSort h_whose h_what h_noteIs h_fitting h_dawn h_likes h_walked h_came h_inn_creak h_inn_doorA h_inn_doorB h_inn_how h_inn_lies h_inn_isCold h_inn_falls h_inn_isFull h_inn_isTold h_inn_act h_inn_what h_inn_then h_inn_met h_inn_bed h_inn_dream h_inn_listens h_inn_name h_inn_nameSort h_inn_nameNumber 0 v_trouble v_where v_read v_taped v_size v_at v_sort v_place v_sign v_number v_fault v_wrongAt v_word v_marks v_notes v_inn_minutes v_inn_rooms v_inn_doors v_inn_things v_inn_dreams v_inn_sleepers v_inn_listeners v_inn_names v_w) 43 [.int x43_s1, .ref h] := by
        intro x43_s1 hf H locs ls hl hP hD hS
        rw [ej43] at hf
        replace hf := un1_s hf
        obtain ⟨r_43, v_trouble_43, v_where_43, hc_43, hf⟩ := bd3 hf
        refine r_dalVi (pc := 43) (ws' := (wX12_heard E h h_inn h_tape h_far h_from h_real h_other h_kept h_set h_w h_book h_noteSort h_whose h_what h_noteIs h_fitting h_dawn h_likes h_walked h_came h_inn_creak h_inn_doorA h_inn_doorB h_inn_how h_inn_lies h_inn_isCold h_inn_falls h_inn_isFull h_inn_isTold h_inn_act h_inn_what h_inn_then h_inn_met h_inn_bed h_inn_dream h_inn_listens h_inn_name h_inn_nameSort h_inn_nameNumber 0 v_trouble_43 v_where_43 v_read v_taped v_size v_at v_sort v_place v_sign v_number v_fault v_wrongAt v_word v_marks v_notes v_inn_minutes v_inn_rooms v_inn_doors v_inn_things v_inn_dreams v_inn_sleepers v_inn_listeners v_inn_names v_w)) (As := [.int x43_s1]) (rest := []) C (ctX12_good l E h h_tape h_far h_from h_real h_other h_kept h_set h_w h_book h_noteSort h_whose h_what h_noteIs h_fitting h_dawn h_likes h_walked h_came 0 v_trouble v_where (some h_inn) v_read v_taped v_size v_at v_sort v_place v_sign v_number v_fault v_wrongAt v_word v_marks v_notes N x43_s1 (r_43, v_trouble_43, v_where_43) hc_43) ml_X12_81 ⟨Nat.le_of_ble_eq_true rfl, Nat.le_of_ble_eq_true rfl⟩ hP hD hS 0 rfl rfl rfl [0] [3, 1, 2] 3 rfl rfl rfl rfl rfl rfl rfl hl.1 rfl (Nat.le_of_ble_eq_true rfl) ⟨Nat.zero_le _, Nat.zero_le _⟩ dX12_heard_43 ?_
        clear hP hD hS; intro H locs hP hD hS
        refine lv_goto (pc := 46) (tgt := 54) hx hb dX12_heard_46 (by decide) ?_
        cases hf
        rw [hQ]
        exact r_iret C hr hP hD hS rfl dX12_heard_54
      clear ej43
      refine lv_if_eq (pc := 35) (tgt := 42) hx hb dX12_heard_35 (by decide) (fun c_35 => ?_) (fun c_35 => ?_)
      · replace hf := it_t c_35 hf
        refine lv_iconst (pc := 42) (v := 0) hx hb dX12_heard_42 (by decide) ?_
        exact hj43 0 hf _ _ _ (lv_sub hl [] rfl) hP hD hS
      · replace hf := it_f c_35 hf
        refine lv_iconst (pc := 38) (v := 1) hx hb dX12_heard_38 (by decide) ?_
        refine lv_goto (pc := 39) (tgt := 43) hx hb dX12_heard_39 (by decide) ?_
        exact hj43 1 hf _ _ _ (lv_sub hl [] rfl) hP hD hS
def wX12_heard0 (E : EN) (h h_tape h_far h_from h_real h_other h_kept h_set h_w h_book h_noteSort h_whose h_what h_noteIs h_fitting h_dawn h_likes h_walked h_came : Nat) (v_thrown : Int32) (v_trouble : Int32) (v_where : Int32) (v_read : Option Nat) (v_taped : Int32) (v_size : Int32) (v_at : Int32) (v_sort : Int32) (v_place : Int32) (v_sign : Int32) (v_number : Int32) (v_fault : Int32) (v_wrongAt : Int32) (v_word : Int64) (v_marks : Int32) (v_notes : Int32) (v_w : Nat → Int32) : va_W := [(h, .inr (11, [.int v_thrown, .int v_trouble, .int v_where, .null, va_rf v_read, .ref h_tape, .int v_taped, .int v_size, .int v_at, .int v_sort, .int v_place, .int v_sign, .int v_number, .int v_fault, .int v_wrongAt, .long v_word, .ref h_far, .ref h_from, .ref h_real, .ref h_other, .ref h_kept, .ref h_set, .ref h_w, .int v_marks, .int v_notes, .ref h_book, .ref h_noteSort, .ref h_whose, .ref h_what, .ref h_noteIs, .ref h_fitting, .ref h_dawn, .ref h_likes, .ref h_walked, .ref h_came])), (h_w, aI E 51 v_w)]
def fX12_heard0 (N : Nat) (p0 : Int32) (p1 : Int32) (v_w : Nat → Int32) : Option (Int32 × Int32 × Int32 × Int32) := (fX12_isListener0 N).bind (un1 fun (r_7 : Int32) => jn (un0 ((fX12_refused N 1).bind (un3 fun (r_51 : Int32) (v_trouble_51 : Int32) (v_where_51 : Int32) => some (r_51, 0, v_trouble_51, v_where_51)))) (fun j49 => if r_7 = 0 then (j49 ()) else (gd 49 51 ((fX12_in N p1 1 (v_w (49 : Int32).toNatClampNeg)).bind (un1 fun (r_22 : Int32) => if r_22 = 0 then (j49 ()) else ((fX12_hears N p0 p1 v_w).bind (un1 fun (r_32 : Int32) => jn (un1 fun (x43_s1 : Int32) => (fX12_good N x43_s1).bind (un3 fun (r_43 : Int32) (v_trouble_43 : Int32) (v_where_43 : Int32) => some (r_43, 0, v_trouble_43, v_where_43))) (fun j43 => if r_32 = 0 then (j43 0) else (j43 1)))))))))
set_option maxHeartbeats 4000000 in
set_option maxRecDepth 100000 in
theorem ctX12_heard0 (l : Launch) (E : EN) (h h_tape h_far h_from h_real h_other h_kept h_set h_w h_book h_noteSort h_whose h_what h_noteIs h_fitting h_dawn h_likes h_walked h_came : Nat) (v_thrown : Int32) (v_trouble : Int32) (v_where : Int32) (v_read : Option Nat) (v_taped : Int32) (v_size : Int32) (v_at : Int32) (v_sort : Int32) (v_place : Int32) (v_sign : Int32) (v_number : Int32) (v_fault : Int32) (v_wrongAt : Int32) (v_word : Int64) (v_marks : Int32) (v_notes : Int32) (v_w : Nat → Int32) (N : Nat) (p0 : Int32) (p1 : Int32) (z : Int32 × Int32 × Int32 × Int32) (hf : fX12_heard0 N p0 p1 v_w = some z) : CTi l E yX12_heard cX12_heard 3 .int 2 43 [.ref h, .int p0, .int p1] (wX12_heard0 E h h_tape h_far h_from h_real h_other h_kept h_set h_w h_book h_noteSort h_whose h_what h_noteIs h_fitting h_dawn h_likes h_walked h_came v_thrown v_trouble v_where v_read v_taped v_size v_at v_sort v_place v_sign v_number v_fault v_wrongAt v_word v_marks v_notes v_w) (z.1) (wX12_heard0 E h h_tape h_far h_from h_real h_other h_kept h_set h_w h_book h_noteSort h_whose h_what h_noteIs h_fitting h_dawn h_likes h_walked h_came z.2.1 z.2.2.1 z.2.2.2 v_read v_taped v_size v_at v_sort v_place v_sign v_number v_fault v_wrongAt v_word v_marks v_notes v_w) := by
  intro sz
  refine ct_body (by decide) (Nat.le_of_ble_eq_true rfl) ?_
  intro p e s m args below meth c A ls hAe C hr hin hP hD hS hl
  have C : CX p s m args meth c cX12_heard RX12 3 E A := C
  have hl : lv_has ls 3 [(0, .ref h), (1, .int p0), (2, .int p1)] := hl
  have hx := C.1
  have hb := C.2.1
  rw [hAe]
  clear hAe
  obtain ⟨Q, hQ⟩ : ∃ Q, Q = MQ below (Qi E A (z.1) (wX12_heard0 E h h_tape h_far h_from h_real h_other h_kept h_set h_w h_book h_noteSort h_whose h_what h_noteIs h_fitting h_dawn h_likes h_walked h_came z.2.1 z.2.2.1 z.2.2.2 v_read v_taped v_size v_at v_sort v_place v_sign v_number v_fault v_wrongAt v_word v_marks v_notes v_w)) args s 0 0 A := ⟨_, rfl⟩
  rw [← hQ]
  unfold fX12_heard0 at hf
  refine lv_aload_n (pc := 0) hx hb dX12_heard_0 rfl (lv_at hl 0 rfl) ?_
  refine lv_iconst (pc := 1) (v := 0) hx hb dX12_heard_1 (by decide) ?_
  refine r_put (pc := 2) (ws' := (wX12_heard0 E h h_tape h_far h_from h_real h_other h_kept h_set h_w h_book h_noteSort h_whose h_what h_noteIs h_fitting h_dawn h_likes h_walked h_came 0 v_trouble v_where v_read v_taped v_size v_at v_sort v_place v_sign v_number v_fault v_wrongAt v_word v_marks v_notes v_w)) C hP hD hS 0 rfl fl_X12_71 rfl rfl (Nat.le_of_ble_eq_true rfl) rfl dX12_heard_2 ?_
  clear hP hD hS; intro H locs hP hD hS
  refine lv_aload_n (pc := 5) hx hb dX12_heard_5 rfl (lv_at hl 0 rfl) ?_
  refine lv_iload_n (pc := 6) hx hb dX12_heard_6 rfl (lv_at hl 1 rfl) ?_
  obtain ⟨r_7, hc_7, hf⟩ := bd1 hf
  refine r_dalVi (pc := 7) (ws' := (wX12_heard0 E h h_tape h_far h_from h_real h_other h_kept h_set h_w h_book h_noteSort h_whose h_what h_noteIs h_fitting h_dawn h_likes h_walked h_came 0 v_trouble v_where v_read v_taped v_size v_at v_sort v_place v_sign v_number v_fault v_wrongAt v_word v_marks v_notes v_w)) (As := [.int p0]) (rest := []) C (ctX12_isListener0 l E h h_tape h_far h_from h_real h_other h_kept h_set h_w h_book h_noteSort h_whose h_what h_noteIs h_fitting h_dawn h_likes h_walked h_came 0 v_trouble v_where v_read v_taped v_size v_at v_sort v_place v_sign v_number v_fault v_wrongAt v_word v_marks v_notes N p0 r_7 hc_7) ml_X12_436 ⟨Nat.le_of_ble_eq_true rfl, Nat.le_of_ble_eq_true rfl⟩ hP hD hS 0 rfl rfl rfl [0] [2, 1] 2 rfl rfl rfl rfl rfl rfl rfl hl.1 rfl (Nat.le_of_ble_eq_true rfl) ⟨Nat.zero_le _, Nat.zero_le _⟩ dX12_heard_7 ?_
  clear hP hD hS; intro H locs hP hD hS
  refine jnK hf (fun j49 ej49 hf => ?_)
  have hj49 : j49 () = some z → AT p l e (rmOf 2 43) s m args below meth c E A Q 0 0 3 [(0, .ref h)] (wX12_heard0 E h h_tape h_far h_from h_real h_other h_kept h_set h_w h_book h_noteSort h_whose h_what h_noteIs h_fitting h_dawn h_likes h_walked h_came 0 v_trouble v_where v_read v_taped v_size v_at v_sort v_place v_sign v_number v_fault v_wrongAt v_word v_marks v_notes v_w) 49 [] := by
    intro  hf H locs ls hl hP hD hS
    rw [ej49] at hf
    replace hf := un0_s hf
    refine lv_aload_n (pc := 49) hx hb dX12_heard_49 rfl (lv_at hl 0 rfl) ?_
    refine lv_iconst (pc := 50) (v := 1) hx hb dX12_heard_50 (by decide) ?_
    obtain ⟨r_51, v_trouble_51, v_where_51, hc_51, hf⟩ := bd3 hf
    refine r_dalVi (pc := 51) (ws' := (wX12_heard0 E h h_tape h_far h_from h_real h_other h_kept h_set h_w h_book h_noteSort h_whose h_what h_noteIs h_fitting h_dawn h_likes h_walked h_came 0 v_trouble_51 v_where_51 v_read v_taped v_size v_at v_sort v_place v_sign v_number v_fault v_wrongAt v_word v_marks v_notes v_w)) (As := [.int 1]) (rest := []) C (ctX12_refused l E h h_tape h_far h_from h_real h_other h_kept h_set h_w h_book h_noteSort h_whose h_what h_noteIs h_fitting h_dawn h_likes h_walked h_came 0 v_trouble v_where none v_read v_taped v_size v_at v_sort v_place v_sign v_number v_fault v_wrongAt v_word v_marks v_notes N 1 (r_51, v_trouble_51, v_where_51) hc_51) ml_X12_77 ⟨Nat.le_of_ble_eq_true rfl, Nat.le_of_ble_eq_true rfl⟩ hP hD hS 0 rfl rfl rfl [0] [2, 1] 2 rfl rfl rfl rfl rfl rfl rfl hl.1 rfl (Nat.le_of_ble_eq_true rfl) ⟨Nat.zero_le _, Nat.zero_le _⟩ dX12_heard_51 ?_
    clear hP hD hS; intro H locs hP hD hS
    cases hf
    rw [hQ]
    exact r_iret C hr hP hD hS rfl dX12_heard_54
  clear ej49
  refine lv_if_eq (pc := 10) (tgt := 49) hx hb dX12_heard_10 (by decide) (fun c_10 => ?_) (fun c_10 => ?_)
  · replace hf := it_t c_10 hf
    exact hj49  hf _ _ _ (lv_sub hl [0] rfl) hP hD hS
  · replace hf := it_f c_10 hf
    refine lv_iload_n (pc := 13) hx hb dX12_heard_13 rfl (lv_at hl 2 rfl) ?_
    refine lv_iconst (pc := 14) (v := 1) hx hb dX12_heard_14 (by decide) ?_
    refine lv_aload_n (pc := 15) hx hb dX12_heard_15 rfl (lv_at hl 0 rfl) ?_
    refine r_get (pc := 16) C hP 0 rfl fl_X12_36 rfl dX12_heard_16 ?_
    refine lv_bipush (pc := 19) (v := 49) hx hb dX12_heard_19 (by decide) ?_
    obtain ⟨hi_21, hf⟩ := gd_s hf
    refine r_iald (pc := 21) C hP 1 rfl hi_21 dX12_heard_21 ?_
    obtain ⟨r_22, hc_22, hf⟩ := bd1 hf
    refine r_dalSi (pc := 22) (Cn := "") (h := 0) (ws' := (wX12_heard0 E h h_tape h_far h_from h_real h_other h_kept h_set h_w h_book h_noteSort h_whose h_what h_noteIs h_fitting h_dawn h_likes h_walked h_came 0 v_trouble v_where v_read v_taped v_size v_at v_sort v_place v_sign v_number v_fault v_wrongAt v_word v_marks v_notes v_w)) (As := [.int p1, .int 1, .int (v_w (49 : Int32).toNatClampNeg)]) (rest := []) C (ctX12_in l E N p1 1 (v_w (49 : Int32).toNatClampNeg) r_22 hc_22) ml_X12_149 ⟨Nat.le_of_ble_eq_true rfl, Nat.le_of_ble_eq_true rfl⟩ hP hD hS [] [0, 1] 2 rfl rfl rfl rfl rfl rfl rfl hl.1 rfl (Nat.le_of_ble_eq_true rfl) ⟨Nat.zero_le _, Nat.zero_le _⟩ dX12_heard_22 ?_
    clear hP hD hS; intro H locs hP hD hS
    refine lv_if_eq (pc := 25) (tgt := 49) hx hb dX12_heard_25 (by decide) (fun c_25 => ?_) (fun c_25 => ?_)
    · replace hf := it_t c_25 hf
      exact hj49  hf _ _ _ (lv_sub hl [0] rfl) hP hD hS
    · replace hf := it_f c_25 hf
      refine lv_aload_n (pc := 28) hx hb dX12_heard_28 rfl (lv_at hl 0 rfl) ?_
      refine lv_aload_n (pc := 29) hx hb dX12_heard_29 rfl (lv_at hl 0 rfl) ?_
      refine lv_iload_n (pc := 30) hx hb dX12_heard_30 rfl (lv_at hl 1 rfl) ?_
      refine lv_iload_n (pc := 31) hx hb dX12_heard_31 rfl (lv_at hl 2 rfl) ?_
      obtain ⟨r_32, hc_32, hf⟩ := bd1 hf
      refine r_dalVi (pc := 32) (ws' := (wX12_heard0 E h h_tape h_far h_from h_real h_other h_kept h_set h_w h_book h_noteSort h_whose h_what h_noteIs h_fitting h_dawn h_likes h_walked h_came 0 v_trouble v_where v_read v_taped v_size v_at v_sort v_place v_sign v_number v_fault v_wrongAt v_word v_marks v_notes v_w)) (As := [.int p0, .int p1]) (rest := [.ref h]) C (ctX12_hears l E h h_tape h_far h_from h_real h_other h_kept h_set h_w h_book h_noteSort h_whose h_what h_noteIs h_fitting h_dawn h_likes h_walked h_came 0 v_trouble v_where none v_read v_taped v_size v_at v_sort v_place v_sign v_number v_fault v_wrongAt v_word v_marks v_notes v_w N p0 p1 r_32 hc_32) ml_X12_439 ⟨Nat.le_of_ble_eq_true rfl, Nat.le_of_ble_eq_true rfl⟩ hP hD hS 0 rfl rfl rfl [0, 1] [2, 3] 2 rfl rfl rfl rfl rfl rfl rfl hl.1 rfl (Nat.le_of_ble_eq_true rfl) ⟨Nat.zero_le _, Nat.zero_le _⟩ dX12_heard_32 ?_
      clear hP hD hS; intro H locs hP hD hS
      refine jnK hf (fun j43 ej43 hf => ?_)
      have hj43 : ∀ (x43_s1 : Int32) , j43 x43_s1 = some z → AT p l e (rmOf 2 43) s m args below meth c E A Q 0 0 3 [] (wX12_heard0 E h h_tape h_far h_from h_real h_other h_kept h_set h_w h_book h_noteSort h_whose h_what h_noteIs h_fitting h_dawn h_likes h_walked h_came 0 v_trouble v_where v_read v_taped v_size v_at v_sort v_place v_sign v_number v_fault v_wrongAt v_word v_marks v_notes v_w) 43 [.int x43_s1, .ref h] := by
        intro x43_s1 hf H locs ls hl hP hD hS
        rw [ej43] at hf
        replace hf := un1_s hf
        obtain ⟨r_43, v_trouble_43, v_where_43, hc_43, hf⟩ := bd3 hf
        refine r_dalVi (pc := 43) (ws' := (wX12_heard0 E h h_tape h_far h_from h_real h_other h_kept h_set h_w h_book h_noteSort h_whose h_what h_noteIs h_fitting h_dawn h_likes h_walked h_came 0 v_trouble_43 v_where_43 v_read v_taped v_size v_at v_sort v_place v_sign v_number v_fault v_wrongAt v_word v_marks v_notes v_w)) (As := [.int x43_s1]) (rest := []) C (ctX12_good l E h h_tape h_far h_from h_real h_other h_kept h_set h_w h_book h_noteSort h_whose h_what h_noteIs h_fitting h_dawn h_likes h_walked h_came 0 v_trouble v_where none v_read v_taped v_size v_at v_sort v_place v_sign v_number v_fault v_wrongAt v_word v_marks v_notes N x43_s1 (r_43, v_trouble_43, v_where_43) hc_43) ml_X12_81 ⟨Nat.le_of_ble_eq_true rfl, Nat.le_of_ble_eq_true rfl⟩ hP hD hS 0 rfl rfl rfl [0] [2, 1] 2 rfl rfl rfl rfl rfl rfl rfl hl.1 rfl (Nat.le_of_ble_eq_true rfl) ⟨Nat.zero_le _, Nat.zero_le _⟩ dX12_heard_43 ?_
        clear hP hD hS; intro H locs hP hD hS
        refine lv_goto (pc := 46) (tgt := 54) hx hb dX12_heard_46 (by decide) ?_
        cases hf
        rw [hQ]
        exact r_iret C hr hP hD hS rfl dX12_heard_54
      clear ej43
      refine lv_if_eq (pc := 35) (tgt := 42) hx hb dX12_heard_35 (by decide) (fun c_35 => ?_) (fun c_35 => ?_)
      · replace hf := it_t c_35 hf
        refine lv_iconst (pc := 42) (v := 0) hx hb dX12_heard_42 (by decide) ?_
        exact hj43 0 hf _ _ _ (lv_sub hl [] rfl) hP hD hS
      · replace hf := it_f c_35 hf
        refine lv_iconst (pc := 38) (v := 1) hx hb dX12_heard_38 (by decide) ?_
        refine lv_goto (pc := 39) (tgt := 43) hx hb dX12_heard_39 (by decide) ?_
        exact hj43 1 hf _ _ _ (lv_sub hl [] rfl) hP hD hS
def wX12_creaks (E : EN) (h h_inn h_tape h_far h_from h_real h_other h_kept h_set h_w h_book h_noteSort h_whose h_what h_noteIs h_fitting h_dawn h_likes h_walked h_came h_inn_creak h_inn_doorA h_inn_doorB h_inn_how h_inn_lies h_inn_isCold h_inn_falls h_inn_isFull h_inn_isTold h_inn_act h_inn_what h_inn_then h_inn_met h_inn_bed h_inn_dream h_inn_listens h_inn_name h_inn_nameSort h_inn_nameNumber : Nat) (v_thrown : Int32) (v_trouble : Int32) (v_where : Int32) (v_read : Option Nat) (v_taped : Int32) (v_size : Int32) (v_at : Int32) (v_sort : Int32) (v_place : Int32) (v_sign : Int32) (v_number : Int32) (v_fault : Int32) (v_wrongAt : Int32) (v_word : Int64) (v_marks : Int32) (v_notes : Int32) (v_inn_minutes : Int32) (v_inn_rooms : Int32) (v_inn_doors : Int32) (v_inn_things : Int32) (v_inn_dreams : Int32) (v_inn_sleepers : Int32) (v_inn_listeners : Int32) (v_inn_names : Int32) (v_w : Nat → Int32) : va_W := [(h, .inr (11, [.int v_thrown, .int v_trouble, .int v_where, .ref h_inn, va_rf v_read, .ref h_tape, .int v_taped, .int v_size, .int v_at, .int v_sort, .int v_place, .int v_sign, .int v_number, .int v_fault, .int v_wrongAt, .long v_word, .ref h_far, .ref h_from, .ref h_real, .ref h_other, .ref h_kept, .ref h_set, .ref h_w, .int v_marks, .int v_notes, .ref h_book, .ref h_noteSort, .ref h_whose, .ref h_what, .ref h_noteIs, .ref h_fitting, .ref h_dawn, .ref h_likes, .ref h_walked, .ref h_came])), (h_inn, .inr (10, [.int v_inn_minutes, .int v_inn_rooms, .int v_inn_doors, .int v_inn_things, .int v_inn_dreams, .int v_inn_sleepers, .int v_inn_listeners, .int v_inn_names, .ref h_inn_creak, .ref h_inn_doorA, .ref h_inn_doorB, .ref h_inn_how, .ref h_inn_lies, .ref h_inn_isCold, .ref h_inn_falls, .ref h_inn_isFull, .ref h_inn_isTold, .ref h_inn_act, .ref h_inn_what, .ref h_inn_then, .ref h_inn_met, .ref h_inn_bed, .ref h_inn_dream, .ref h_inn_listens, .ref h_inn_name, .ref h_inn_nameSort, .ref h_inn_nameNumber])), (h_w, aI E 51 v_w)]
def BX12_creaks_23 (v_w : Nat → Int32) (N : Nat) (p0 : Int32) (rec23 : (Int32 × Int32) → Option (Int32 × Int32 × Int32 × Int32)) : (Int32 × Int32) → Option (Int32 × Int32 × Int32 × Int32) := un2 fun (x23_2 : Int32) (x23_3 : Int32) => gd 49 51 (if (v_w (49 : Int32).toNatClampNeg) < x23_3 then ((fX12_good N x23_2).bind (un3 fun (r_59 : Int32) (v_trouble_59 : Int32) (v_where_59 : Int32) => some (r_59, 0, v_trouble_59, v_where_59))) else ((fX12_hears N p0 x23_3 v_w).bind (un1 fun (r_38 : Int32) => jn (un2 fun (x49_s0 : Int32) (x49_s1 : Int32) => rec23 (x49_s0 + x49_s1, x23_3 + 1)) (fun j49 => if r_38 = 0 then (j49 (x23_2, 0)) else (j49 (x23_2, 1))))))
def fX12_creaks (N : Nat) (p0 : Int32) (v_inn_listeners : Int32) (v_w : Nat → Int32) : Option (Int32 × Int32 × Int32 × Int32) := (fX12_isListener N p0 v_inn_listeners).bind (un1 fun (r_7 : Int32) => if r_7 = 0 then ((fX12_refused N 1).bind (un3 fun (r_15 : Int32) (v_trouble_15 : Int32) (v_where_15 : Int32) => some (r_15, 0, v_trouble_15, v_where_15))) else (lp (BX12_creaks_23 v_w N p0) N (0, 1)))
set_option maxHeartbeats 4000000 in
set_option maxRecDepth 100000 in
theorem ctX12_creaks (l : Launch) (E : EN) (h h_inn h_tape h_far h_from h_real h_other h_kept h_set h_w h_book h_noteSort h_whose h_what h_noteIs h_fitting h_dawn h_likes h_walked h_came h_inn_creak h_inn_doorA h_inn_doorB h_inn_how h_inn_lies h_inn_isCold h_inn_falls h_inn_isFull h_inn_isTold h_inn_act h_inn_what h_inn_then h_inn_met h_inn_bed h_inn_dream h_inn_listens h_inn_name h_inn_nameSort h_inn_nameNumber : Nat) (v_thrown : Int32) (v_trouble : Int32) (v_where : Int32) (v_read : Option Nat) (v_taped : Int32) (v_size : Int32) (v_at : Int32) (v_sort : Int32) (v_place : Int32) (v_sign : Int32) (v_number : Int32) (v_fault : Int32) (v_wrongAt : Int32) (v_word : Int64) (v_marks : Int32) (v_notes : Int32) (v_inn_minutes : Int32) (v_inn_rooms : Int32) (v_inn_doors : Int32) (v_inn_things : Int32) (v_inn_dreams : Int32) (v_inn_sleepers : Int32) (v_inn_listeners : Int32) (v_inn_names : Int32) (v_w : Nat → Int32) (N : Nat) (p0 : Int32) (z : Int32 × Int32 × Int32 × Int32) (hf : fX12_creaks N p0 v_inn_listeners v_w = some z) : CTi l E yX12_creaks cX12_creaks 4 .int 2 43 [.ref h, .int p0] (wX12_creaks E h h_inn h_tape h_far h_from h_real h_other h_kept h_set h_w h_book h_noteSort h_whose h_what h_noteIs h_fitting h_dawn h_likes h_walked h_came h_inn_creak h_inn_doorA h_inn_doorB h_inn_how h_inn_lies h_inn_isCold h_inn_falls h_inn_isFull h_inn_isTold h_inn_act h_inn_what h_inn_then h_inn_met h_inn_bed h_inn_dream h_inn_listens h_inn_name h_inn_nameSort h_inn_nameNumber v_thrown v_trouble v_where v_read v_taped v_size v_at v_sort v_place v_sign v_number v_fault v_wrongAt v_word v_marks v_notes v_inn_minutes v_inn_rooms v_inn_doors v_inn_things v_inn_dreams v_inn_sleepers v_inn_listeners v_inn_names v_w) (z.1) (wX12_creaks E h h_inn h_tape h_far h_from h_real h_other h_kept h_set h_w h_book h_noteSort h_whose h_what h_noteIs h_fitting h_dawn h_likes h_walked h_came h_inn_creak h_inn_doorA h_inn_doorB h_inn_how h_inn_lies h_inn_isCold h_inn_falls h_inn_isFull h_inn_isTold h_inn_act h_inn_what h_inn_then h_inn_met h_inn_bed h_inn_dream h_inn_listens h_inn_name h_inn_nameSort h_inn_nameNumber z.2.1 z.2.2.1 z.2.2.2 v_read v_taped v_size v_at v_sort v_place v_sign v_number v_fault v_wrongAt v_word v_marks v_notes v_inn_minutes v_inn_rooms v_inn_doors v_inn_things v_inn_dreams v_inn_sleepers v_inn_listeners v_inn_names v_w) := by
  intro sz
  refine ct_body (by decide) (Nat.le_of_ble_eq_true rfl) ?_
  intro p e s m args below meth c A ls hAe C hr hin hP hD hS hl
  have C : CX p s m args meth c cX12_creaks RX12 4 E A := C
  have hl : lv_has ls 4 [(0, .ref h), (1, .int p0)] := hl
  have hx := C.1
  have hb := C.2.1
  rw [hAe]
  clear hAe
  obtain ⟨Q, hQ⟩ : ∃ Q, Q = MQ below (Qi E A (z.1) (wX12_creaks E h h_inn h_tape h_far h_from h_real h_other h_kept h_set h_w h_book h_noteSort h_whose h_what h_noteIs h_fitting h_dawn h_likes h_walked h_came h_inn_creak h_inn_doorA h_inn_doorB h_inn_how h_inn_lies h_inn_isCold h_inn_falls h_inn_isFull h_inn_isTold h_inn_act h_inn_what h_inn_then h_inn_met h_inn_bed h_inn_dream h_inn_listens h_inn_name h_inn_nameSort h_inn_nameNumber z.2.1 z.2.2.1 z.2.2.2 v_read v_taped v_size v_at v_sort v_place v_sign v_number v_fault v_wrongAt v_word v_marks v_notes v_inn_minutes v_inn_rooms v_inn_doors v_inn_things v_inn_dreams v_inn_sleepers v_inn_listeners v_inn_names v_w)) args s 0 0 A := ⟨_, rfl⟩
  rw [← hQ]
  unfold fX12_creaks at hf
  refine lv_aload_n (pc := 0) hx hb dX12_creaks_0 rfl (lv_at hl 0 rfl) ?_
  refine lv_iconst (pc := 1) (v := 0) hx hb dX12_creaks_1 (by decide) ?_
  refine r_put (pc := 2) (ws' := (wX12_creaks E h h_inn h_tape h_far h_from h_real h_other h_kept h_set h_w h_book h_noteSort h_whose h_what h_noteIs h_fitting h_dawn h_likes h_walked h_came h_inn_creak h_inn_doorA h_inn_doorB h_inn_how h_inn_lies h_inn_isCold h_inn_falls h_inn_isFull h_inn_isTold h_inn_act h_inn_what h_inn_then h_inn_met h_inn_bed h_inn_dream h_inn_listens h_inn_name h_inn_nameSort h_inn_nameNumber 0 v_trouble v_where v_read v_taped v_size v_at v_sort v_place v_sign v_number v_fault v_wrongAt v_word v_marks v_notes v_inn_minutes v_inn_rooms v_inn_doors v_inn_things v_inn_dreams v_inn_sleepers v_inn_listeners v_inn_names v_w)) C hP hD hS 0 rfl fl_X12_71 rfl rfl (Nat.le_of_ble_eq_true rfl) rfl dX12_creaks_2 ?_
  clear hP hD hS; intro H locs hP hD hS
  refine lv_aload_n (pc := 5) hx hb dX12_creaks_5 rfl (lv_at hl 0 rfl) ?_
  refine lv_iload_n (pc := 6) hx hb dX12_creaks_6 rfl (lv_at hl 1 rfl) ?_
  obtain ⟨r_7, hc_7, hf⟩ := bd1 hf
  refine r_dalVi (pc := 7) (ws' := (wX12_creaks E h h_inn h_tape h_far h_from h_real h_other h_kept h_set h_w h_book h_noteSort h_whose h_what h_noteIs h_fitting h_dawn h_likes h_walked h_came h_inn_creak h_inn_doorA h_inn_doorB h_inn_how h_inn_lies h_inn_isCold h_inn_falls h_inn_isFull h_inn_isTold h_inn_act h_inn_what h_inn_then h_inn_met h_inn_bed h_inn_dream h_inn_listens h_inn_name h_inn_nameSort h_inn_nameNumber 0 v_trouble v_where v_read v_taped v_size v_at v_sort v_place v_sign v_number v_fault v_wrongAt v_word v_marks v_notes v_inn_minutes v_inn_rooms v_inn_doors v_inn_things v_inn_dreams v_inn_sleepers v_inn_listeners v_inn_names v_w)) (As := [.int p0]) (rest := []) C (ctX12_isListener l E h h_inn h_tape h_far h_from h_real h_other h_kept h_set h_w h_book h_noteSort h_whose h_what h_noteIs h_fitting h_dawn h_likes h_walked h_came h_inn_creak h_inn_doorA h_inn_doorB h_inn_how h_inn_lies h_inn_isCold h_inn_falls h_inn_isFull h_inn_isTold h_inn_act h_inn_what h_inn_then h_inn_met h_inn_bed h_inn_dream h_inn_listens h_inn_name h_inn_nameSort h_inn_nameNumber 0 v_trouble v_where v_read v_taped v_size v_at v_sort v_place v_sign v_number v_fault v_wrongAt v_word v_marks v_notes v_inn_minutes v_inn_rooms v_inn_doors v_inn_things v_inn_dreams v_inn_sleepers v_inn_listeners v_inn_names N p0 r_7 hc_7) ml_X12_436 ⟨Nat.le_of_ble_eq_true rfl, Nat.le_of_ble_eq_true rfl⟩ hP hD hS 0 rfl rfl rfl [0, 1] [3, 4, 2] 3 rfl rfl rfl rfl rfl rfl rfl hl.1 rfl (Nat.le_of_ble_eq_true rfl) ⟨Nat.zero_le _, Nat.zero_le _⟩ dX12_creaks_7 ?_
  clear hP hD hS; intro H locs hP hD hS
  refine lv_if_ne (pc := 10) (tgt := 19) hx hb dX12_creaks_10 (by decide) (fun c_10 => ?_) (fun c_10 => ?_)
  · replace hf := it_f c_10 hf
    refine lv_iconst (pc := 19) (v := 0) hx hb dX12_creaks_19 (by decide) ?_
    refine lv_istore_n (pc := 20) (lv' := [(2, .int 0), (0, .ref h), (1, .int p0)]) hx hb dX12_creaks_20 rfl hl (by decide) rfl (fun ls hl => ?_)
    refine lv_iconst (pc := 21) (v := 1) hx hb dX12_creaks_21 (by decide) ?_
    refine lv_istore_n (pc := 22) (lv' := [(3, .int 1), (2, .int 0), (0, .ref h), (1, .int p0)]) hx hb dX12_creaks_22 rfl hl (by decide) rfl (fun ls hl => ?_)
    have key23 : ∀ (n : Nat) (x23_2 : Int32) (x23_3 : Int32) , lp (BX12_creaks_23 v_w N p0) n (x23_2, x23_3) = some z → AT p l e (rmOf 2 43) s m args below meth c E A Q 0 0 4 [(0, .ref h), (1, .int p0), (2, .int x23_2), (3, .int x23_3)] (wX12_creaks E h h_inn h_tape h_far h_from h_real h_other h_kept h_set h_w h_book h_noteSort h_whose h_what h_noteIs h_fitting h_dawn h_likes h_walked h_came h_inn_creak h_inn_doorA h_inn_doorB h_inn_how h_inn_lies h_inn_isCold h_inn_falls h_inn_isFull h_inn_isTold h_inn_act h_inn_what h_inn_then h_inn_met h_inn_bed h_inn_dream h_inn_listens h_inn_name h_inn_nameSort h_inn_nameNumber 0 v_trouble v_where v_read v_taped v_size v_at v_sort v_place v_sign v_number v_fault v_wrongAt v_word v_marks v_notes v_inn_minutes v_inn_rooms v_inn_doors v_inn_things v_inn_dreams v_inn_sleepers v_inn_listeners v_inn_names v_w) 23 [] := by
      intro n
      induction n with
      | zero => intro x23_2 x23_3 hf; exact (lp_0 hf).elim
      | succ n ih23 =>
        intro x23_2 x23_3 hf H locs ls hl hP hD hS
        replace hf := lp_s hf
        generalize lp (BX12_creaks_23 v_w N p0) n = rec23 at ih23 hf
        unfold BX12_creaks_23 at hf
        replace hf := un2_s hf
        refine lv_iload_n (pc := 23) hx hb dX12_creaks_23 rfl (lv_at hl 3 rfl) ?_
        refine lv_aload_n (pc := 24) hx hb dX12_creaks_24 rfl (lv_at hl 0 rfl) ?_
        refine r_get (pc := 25) C hP 0 rfl fl_X12_36 rfl dX12_creaks_25 ?_
        refine lv_bipush (pc := 28) (v := 49) hx hb dX12_creaks_28 (by decide) ?_
        obtain ⟨hi_30, hf⟩ := gd_s hf
        refine r_iald (pc := 30) C hP 2 rfl hi_30 dX12_creaks_30 ?_
        refine lv_icmp_gt (pc := 31) (tgt := 57) hx hb dX12_creaks_31 (by decide) (fun c_31 => ?_) (fun c_31 => ?_)
        · replace hf := it_t c_31 hf
          refine lv_aload_n (pc := 57) hx hb dX12_creaks_57 rfl (lv_at hl 0 rfl) ?_
          refine lv_iload_n (pc := 58) hx hb dX12_creaks_58 rfl (lv_at hl 2 rfl) ?_
          obtain ⟨r_59, v_trouble_59, v_where_59, hc_59, hf⟩ := bd3 hf
          refine r_dalVi (pc := 59) (ws' := (wX12_creaks E h h_inn h_tape h_far h_from h_real h_other h_kept h_set h_w h_book h_noteSort h_whose h_what h_noteIs h_fitting h_dawn h_likes h_walked h_came h_inn_creak h_inn_doorA h_inn_doorB h_inn_how h_inn_lies h_inn_isCold h_inn_falls h_inn_isFull h_inn_isTold h_inn_act h_inn_what h_inn_then h_inn_met h_inn_bed h_inn_dream h_inn_listens h_inn_name h_inn_nameSort h_inn_nameNumber 0 v_trouble_59 v_where_59 v_read v_taped v_size v_at v_sort v_place v_sign v_number v_fault v_wrongAt v_word v_marks v_notes v_inn_minutes v_inn_rooms v_inn_doors v_inn_things v_inn_dreams v_inn_sleepers v_inn_listeners v_inn_names v_w)) (As := [.int x23_2]) (rest := []) C (ctX12_good l E h h_tape h_far h_from h_real h_other h_kept h_set h_w h_book h_noteSort h_whose h_what h_noteIs h_fitting h_dawn h_likes h_walked h_came 0 v_trouble v_where (some h_inn) v_read v_taped v_size v_at v_sort v_place v_sign v_number v_fault v_wrongAt v_word v_marks v_notes N x23_2 (r_59, v_trouble_59, v_where_59) hc_59) ml_X12_81 ⟨Nat.le_of_ble_eq_true rfl, Nat.le_of_ble_eq_true rfl⟩ hP hD hS 0 rfl rfl rfl [0] [3, 1, 2] 3 rfl rfl rfl rfl rfl rfl rfl hl.1 rfl (Nat.le_of_ble_eq_true rfl) ⟨Nat.zero_le _, Nat.zero_le _⟩ dX12_creaks_59 ?_
          clear hP hD hS; intro H locs hP hD hS
          cases hf
          rw [hQ]
          exact r_iret C hr hP hD hS rfl dX12_creaks_62
        · replace hf := it_f c_31 hf
          refine lv_iload_n (pc := 34) hx hb dX12_creaks_34 rfl (lv_at hl 2 rfl) ?_
          refine lv_aload_n (pc := 35) hx hb dX12_creaks_35 rfl (lv_at hl 0 rfl) ?_
          refine lv_iload_n (pc := 36) hx hb dX12_creaks_36 rfl (lv_at hl 1 rfl) ?_
          refine lv_iload_n (pc := 37) hx hb dX12_creaks_37 rfl (lv_at hl 3 rfl) ?_
          obtain ⟨r_38, hc_38, hf⟩ := bd1 hf
          refine r_dalVi (pc := 38) (ws' := (wX12_creaks E h h_inn h_tape h_far h_from h_real h_other h_kept h_set h_w h_book h_noteSort h_whose h_what h_noteIs h_fitting h_dawn h_likes h_walked h_came h_inn_creak h_inn_doorA h_inn_doorB h_inn_how h_inn_lies h_inn_isCold h_inn_falls h_inn_isFull h_inn_isTold h_inn_act h_inn_what h_inn_then h_inn_met h_inn_bed h_inn_dream h_inn_listens h_inn_name h_inn_nameSort h_inn_nameNumber 0 v_trouble v_where v_read v_taped v_size v_at v_sort v_place v_sign v_number v_fault v_wrongAt v_word v_marks v_notes v_inn_minutes v_inn_rooms v_inn_doors v_inn_things v_inn_dreams v_inn_sleepers v_inn_listeners v_inn_names v_w)) (As := [.int p0, .int x23_3]) (rest := [.int x23_2]) C (ctX12_hears l E h h_tape h_far h_from h_real h_other h_kept h_set h_w h_book h_noteSort h_whose h_what h_noteIs h_fitting h_dawn h_likes h_walked h_came 0 v_trouble v_where (some h_inn) v_read v_taped v_size v_at v_sort v_place v_sign v_number v_fault v_wrongAt v_word v_marks v_notes v_w N p0 x23_3 r_38 hc_38) ml_X12_439 ⟨Nat.le_of_ble_eq_true rfl, Nat.le_of_ble_eq_true rfl⟩ hP hD hS 0 rfl rfl rfl [0, 2] [3, 1, 4] 3 rfl rfl rfl rfl rfl rfl rfl hl.1 rfl (Nat.le_of_ble_eq_true rfl) ⟨Nat.zero_le _, Nat.zero_le _⟩ dX12_creaks_38 ?_
          clear hP hD hS; intro H locs hP hD hS
          refine jnK hf (fun j49 ej49 hf => ?_)
          have hj49 : ∀ (x49_s0 : Int32) (x49_s1 : Int32) , j49 (x49_s0, x49_s1) = some z → AT p l e (rmOf 2 43) s m args below meth c E A Q 0 0 4 [(0, .ref h), (1, .int p0), (3, .int x23_3)] (wX12_creaks E h h_inn h_tape h_far h_from h_real h_other h_kept h_set h_w h_book h_noteSort h_whose h_what h_noteIs h_fitting h_dawn h_likes h_walked h_came h_inn_creak h_inn_doorA h_inn_doorB h_inn_how h_inn_lies h_inn_isCold h_inn_falls h_inn_isFull h_inn_isTold h_inn_act h_inn_what h_inn_then h_inn_met h_inn_bed h_inn_dream h_inn_listens h_inn_name h_inn_nameSort h_inn_nameNumber 0 v_trouble v_where v_read v_taped v_size v_at v_sort v_place v_sign v_number v_fault v_wrongAt v_word v_marks v_notes v_inn_minutes v_inn_rooms v_inn_doors v_inn_things v_inn_dreams v_inn_sleepers v_inn_listeners v_inn_names v_w) 49 [.int x49_s1, .int x49_s0] := by
            intro x49_s0 x49_s1 hf H locs ls hl hP hD hS
            rw [ej49] at hf
            replace hf := un2_s hf
            refine lv_iadd (pc := 49) hx hb dX12_creaks_49 ?_
            refine lv_istore_n (pc := 50) (lv' := [(2, .int (x49_s0 + x49_s1)), (0, .ref h), (1, .int p0), (3, .int x23_3)]) hx hb dX12_creaks_50 rfl hl (by decide) rfl (fun ls hl => ?_)
            refine lv_iinc (pc := 51) (v := x23_3 + 1) (lv' := [(3, .int (x23_3 + 1)), (2, .int (x49_s0 + x49_s1)), (0, .ref h), (1, .int p0)]) hx hb dX12_creaks_51 hl (k := 3) rfl rfl (by decide) rfl (fun ls hl => ?_)
            refine lv_goto (pc := 54) (tgt := 23) hx hb dX12_creaks_54 (by decide) ?_
            exact ih23 (x49_s0 + x49_s1) (x23_3 + 1) hf _ _ _ (lv_sub hl [2, 3, 1, 0] rfl) hP hD hS
          clear ej49
          refine lv_if_eq (pc := 41) (tgt := 48) hx hb dX12_creaks_41 (by decide) (fun c_41 => ?_) (fun c_41 => ?_)
          · replace hf := it_t c_41 hf
            refine lv_iconst (pc := 48) (v := 0) hx hb dX12_creaks_48 (by decide) ?_
            exact hj49 x23_2 0 hf _ _ _ (lv_sub hl [0, 1, 3] rfl) hP hD hS
          · replace hf := it_f c_41 hf
            refine lv_iconst (pc := 44) (v := 1) hx hb dX12_creaks_44 (by decide) ?_
            refine lv_goto (pc := 45) (tgt := 49) hx hb dX12_creaks_45 (by decide) ?_
            exact hj49 x23_2 1 hf _ _ _ (lv_sub hl [0, 1, 3] rfl) hP hD hS
    exact key23 _ 0 1 hf _ _ _ (lv_sub hl [2, 3, 1, 0] rfl) hP hD hS
  · replace hf := it_t c_10 hf
    refine lv_aload_n (pc := 13) hx hb dX12_creaks_13 rfl (lv_at hl 0 rfl) ?_
    refine lv_iconst (pc := 14) (v := 1) hx hb dX12_creaks_14 (by decide) ?_
    obtain ⟨r_15, v_trouble_15, v_where_15, hc_15, hf⟩ := bd3 hf
    refine r_dalVi (pc := 15) (ws' := (wX12_creaks E h h_inn h_tape h_far h_from h_real h_other h_kept h_set h_w h_book h_noteSort h_whose h_what h_noteIs h_fitting h_dawn h_likes h_walked h_came h_inn_creak h_inn_doorA h_inn_doorB h_inn_how h_inn_lies h_inn_isCold h_inn_falls h_inn_isFull h_inn_isTold h_inn_act h_inn_what h_inn_then h_inn_met h_inn_bed h_inn_dream h_inn_listens h_inn_name h_inn_nameSort h_inn_nameNumber 0 v_trouble_15 v_where_15 v_read v_taped v_size v_at v_sort v_place v_sign v_number v_fault v_wrongAt v_word v_marks v_notes v_inn_minutes v_inn_rooms v_inn_doors v_inn_things v_inn_dreams v_inn_sleepers v_inn_listeners v_inn_names v_w)) (As := [.int 1]) (rest := []) C (ctX12_refused l E h h_tape h_far h_from h_real h_other h_kept h_set h_w h_book h_noteSort h_whose h_what h_noteIs h_fitting h_dawn h_likes h_walked h_came 0 v_trouble v_where (some h_inn) v_read v_taped v_size v_at v_sort v_place v_sign v_number v_fault v_wrongAt v_word v_marks v_notes N 1 (r_15, v_trouble_15, v_where_15) hc_15) ml_X12_77 ⟨Nat.le_of_ble_eq_true rfl, Nat.le_of_ble_eq_true rfl⟩ hP hD hS 0 rfl rfl rfl [0] [3, 1, 2] 3 rfl rfl rfl rfl rfl rfl rfl hl.1 rfl (Nat.le_of_ble_eq_true rfl) ⟨Nat.zero_le _, Nat.zero_le _⟩ dX12_creaks_15 ?_
    clear hP hD hS; intro H locs hP hD hS
    cases hf
    rw [hQ]
    exact r_iret C hr hP hD hS rfl dX12_creaks_18
def wX12_creaks0 (E : EN) (h h_tape h_far h_from h_real h_other h_kept h_set h_w h_book h_noteSort h_whose h_what h_noteIs h_fitting h_dawn h_likes h_walked h_came : Nat) (v_thrown : Int32) (v_trouble : Int32) (v_where : Int32) (v_read : Option Nat) (v_taped : Int32) (v_size : Int32) (v_at : Int32) (v_sort : Int32) (v_place : Int32) (v_sign : Int32) (v_number : Int32) (v_fault : Int32) (v_wrongAt : Int32) (v_word : Int64) (v_marks : Int32) (v_notes : Int32) (v_w : Nat → Int32) : va_W := [(h, .inr (11, [.int v_thrown, .int v_trouble, .int v_where, .null, va_rf v_read, .ref h_tape, .int v_taped, .int v_size, .int v_at, .int v_sort, .int v_place, .int v_sign, .int v_number, .int v_fault, .int v_wrongAt, .long v_word, .ref h_far, .ref h_from, .ref h_real, .ref h_other, .ref h_kept, .ref h_set, .ref h_w, .int v_marks, .int v_notes, .ref h_book, .ref h_noteSort, .ref h_whose, .ref h_what, .ref h_noteIs, .ref h_fitting, .ref h_dawn, .ref h_likes, .ref h_walked, .ref h_came])), (h_w, aI E 51 v_w)]
def BX12_creaks0_23 (v_w : Nat → Int32) (N : Nat) (p0 : Int32) (rec23 : (Int32 × Int32) → Option (Int32 × Int32 × Int32 × Int32)) : (Int32 × Int32) → Option (Int32 × Int32 × Int32 × Int32) := un2 fun (x23_2 : Int32) (x23_3 : Int32) => gd 49 51 (if (v_w (49 : Int32).toNatClampNeg) < x23_3 then ((fX12_good N x23_2).bind (un3 fun (r_59 : Int32) (v_trouble_59 : Int32) (v_where_59 : Int32) => some (r_59, 0, v_trouble_59, v_where_59))) else ((fX12_hears N p0 x23_3 v_w).bind (un1 fun (r_38 : Int32) => jn (un2 fun (x49_s0 : Int32) (x49_s1 : Int32) => rec23 (x49_s0 + x49_s1, x23_3 + 1)) (fun j49 => if r_38 = 0 then (j49 (x23_2, 0)) else (j49 (x23_2, 1))))))
def fX12_creaks0 (N : Nat) (p0 : Int32) (v_w : Nat → Int32) : Option (Int32 × Int32 × Int32 × Int32) := (fX12_isListener0 N).bind (un1 fun (r_7 : Int32) => if r_7 = 0 then ((fX12_refused N 1).bind (un3 fun (r_15 : Int32) (v_trouble_15 : Int32) (v_where_15 : Int32) => some (r_15, 0, v_trouble_15, v_where_15))) else (lp (BX12_creaks0_23 v_w N p0) N (0, 1)))
set_option maxHeartbeats 4000000 in
set_option maxRecDepth 100000 in
theorem ctX12_creaks0 (l : Launch) (E : EN) (h h_tape h_far h_from h_real h_other h_kept h_set h_w h_book h_noteSort h_whose h_what h_noteIs h_fitting h_dawn h_likes h_walked h_came : Nat) (v_thrown : Int32) (v_trouble : Int32) (v_where : Int32) (v_read : Option Nat) (v_taped : Int32) (v_size : Int32) (v_at : Int32) (v_sort : Int32) (v_place : Int32) (v_sign : Int32) (v_number : Int32) (v_fault : Int32) (v_wrongAt : Int32) (v_word : Int64) (v_marks : Int32) (v_notes : Int32) (v_w : Nat → Int32) (N : Nat) (p0 : Int32) (z : Int32 × Int32 × Int32 × Int32) (hf : fX12_creaks0 N p0 v_w = some z) : CTi l E yX12_creaks cX12_creaks 4 .int 2 43 [.ref h, .int p0] (wX12_creaks0 E h h_tape h_far h_from h_real h_other h_kept h_set h_w h_book h_noteSort h_whose h_what h_noteIs h_fitting h_dawn h_likes h_walked h_came v_thrown v_trouble v_where v_read v_taped v_size v_at v_sort v_place v_sign v_number v_fault v_wrongAt v_word v_marks v_notes v_w) (z.1) (wX12_creaks0 E h h_tape h_far h_from h_real h_other h_kept h_set h_w h_book h_noteSort h_whose h_what h_noteIs h_fitting h_dawn h_likes h_walked h_came z.2.1 z.2.2.1 z.2.2.2 v_read v_taped v_size v_at v_sort v_place v_sign v_number v_fault v_wrongAt v_word v_marks v_notes v_w) := by
  intro sz
  refine ct_body (by decide) (Nat.le_of_ble_eq_true rfl) ?_
  intro p e s m args below meth c A ls hAe C hr hin hP hD hS hl
  have C : CX p s m args meth c cX12_creaks RX12 4 E A := C
  have hl : lv_has ls 4 [(0, .ref h), (1, .int p0)] := hl
  have hx := C.1
  have hb := C.2.1
  rw [hAe]
  clear hAe
  obtain ⟨Q, hQ⟩ : ∃ Q, Q = MQ below (Qi E A (z.1) (wX12_creaks0 E h h_tape h_far h_from h_real h_other h_kept h_set h_w h_book h_noteSort h_whose h_what h_noteIs h_fitting h_dawn h_likes h_walked h_came z.2.1 z.2.2.1 z.2.2.2 v_read v_taped v_size v_at v_sort v_place v_sign v_number v_fault v_wrongAt v_word v_marks v_notes v_w)) args s 0 0 A := ⟨_, rfl⟩
  rw [← hQ]
  unfold fX12_creaks0 at hf
  refine lv_aload_n (pc := 0) hx hb dX12_creaks_0 rfl (lv_at hl 0 rfl) ?_
  refine lv_iconst (pc := 1) (v := 0) hx hb dX12_creaks_1 (by decide) ?_
  refine r_put (pc := 2) (ws' := (wX12_creaks0 E h h_tape h_far h_from h_real h_other h_kept h_set h_w h_book h_noteSort h_whose h_what h_noteIs h_fitting h_dawn h_likes h_walked h_came 0 v_trouble v_where v_read v_taped v_size v_at v_sort v_place v_sign v_number v_fault v_wrongAt v_word v_marks v_notes v_w)) C hP hD hS 0 rfl fl_X12_71 rfl rfl (Nat.le_of_ble_eq_true rfl) rfl dX12_creaks_2 ?_
  clear hP hD hS; intro H locs hP hD hS
  refine lv_aload_n (pc := 5) hx hb dX12_creaks_5 rfl (lv_at hl 0 rfl) ?_
  refine lv_iload_n (pc := 6) hx hb dX12_creaks_6 rfl (lv_at hl 1 rfl) ?_
  obtain ⟨r_7, hc_7, hf⟩ := bd1 hf
  refine r_dalVi (pc := 7) (ws' := (wX12_creaks0 E h h_tape h_far h_from h_real h_other h_kept h_set h_w h_book h_noteSort h_whose h_what h_noteIs h_fitting h_dawn h_likes h_walked h_came 0 v_trouble v_where v_read v_taped v_size v_at v_sort v_place v_sign v_number v_fault v_wrongAt v_word v_marks v_notes v_w)) (As := [.int p0]) (rest := []) C (ctX12_isListener0 l E h h_tape h_far h_from h_real h_other h_kept h_set h_w h_book h_noteSort h_whose h_what h_noteIs h_fitting h_dawn h_likes h_walked h_came 0 v_trouble v_where v_read v_taped v_size v_at v_sort v_place v_sign v_number v_fault v_wrongAt v_word v_marks v_notes N p0 r_7 hc_7) ml_X12_436 ⟨Nat.le_of_ble_eq_true rfl, Nat.le_of_ble_eq_true rfl⟩ hP hD hS 0 rfl rfl rfl [0] [2, 1] 2 rfl rfl rfl rfl rfl rfl rfl hl.1 rfl (Nat.le_of_ble_eq_true rfl) ⟨Nat.zero_le _, Nat.zero_le _⟩ dX12_creaks_7 ?_
  clear hP hD hS; intro H locs hP hD hS
  refine lv_if_ne (pc := 10) (tgt := 19) hx hb dX12_creaks_10 (by decide) (fun c_10 => ?_) (fun c_10 => ?_)
  · replace hf := it_f c_10 hf
    refine lv_iconst (pc := 19) (v := 0) hx hb dX12_creaks_19 (by decide) ?_
    refine lv_istore_n (pc := 20) (lv' := [(2, .int 0), (0, .ref h), (1, .int p0)]) hx hb dX12_creaks_20 rfl hl (by decide) rfl (fun ls hl => ?_)
    refine lv_iconst (pc := 21) (v := 1) hx hb dX12_creaks_21 (by decide) ?_
    refine lv_istore_n (pc := 22) (lv' := [(3, .int 1), (2, .int 0), (0, .ref h), (1, .int p0)]) hx hb dX12_creaks_22 rfl hl (by decide) rfl (fun ls hl => ?_)
    have key23 : ∀ (n : Nat) (x23_2 : Int32) (x23_3 : Int32) , lp (BX12_creaks0_23 v_w N p0) n (x23_2, x23_3) = some z → AT p l e (rmOf 2 43) s m args below meth c E A Q 0 0 4 [(0, .ref h), (1, .int p0), (2, .int x23_2), (3, .int x23_3)] (wX12_creaks0 E h h_tape h_far h_from h_real h_other h_kept h_set h_w h_book h_noteSort h_whose h_what h_noteIs h_fitting h_dawn h_likes h_walked h_came 0 v_trouble v_where v_read v_taped v_size v_at v_sort v_place v_sign v_number v_fault v_wrongAt v_word v_marks v_notes v_w) 23 [] := by
      intro n
      induction n with
      | zero => intro x23_2 x23_3 hf; exact (lp_0 hf).elim
      | succ n ih23 =>
        intro x23_2 x23_3 hf H locs ls hl hP hD hS
        replace hf := lp_s hf
        generalize lp (BX12_creaks0_23 v_w N p0) n = rec23 at ih23 hf
        unfold BX12_creaks0_23 at hf
        replace hf := un2_s hf
        refine lv_iload_n (pc := 23) hx hb dX12_creaks_23 rfl (lv_at hl 3 rfl) ?_
        refine lv_aload_n (pc := 24) hx hb dX12_creaks_24 rfl (lv_at hl 0 rfl) ?_
        refine r_get (pc := 25) C hP 0 rfl fl_X12_36 rfl dX12_creaks_25 ?_
        refine lv_bipush (pc := 28) (v := 49) hx hb dX12_creaks_28 (by decide) ?_
        obtain ⟨hi_30, hf⟩ := gd_s hf
        refine r_iald (pc := 30) C hP 1 rfl hi_30 dX12_creaks_30 ?_
        refine lv_icmp_gt (pc := 31) (tgt := 57) hx hb dX12_creaks_31 (by decide) (fun c_31 => ?_) (fun c_31 => ?_)
        · replace hf := it_t c_31 hf
          refine lv_aload_n (pc := 57) hx hb dX12_creaks_57 rfl (lv_at hl 0 rfl) ?_
          refine lv_iload_n (pc := 58) hx hb dX12_creaks_58 rfl (lv_at hl 2 rfl) ?_
          obtain ⟨r_59, v_trouble_59, v_where_59, hc_59, hf⟩ := bd3 hf
          refine r_dalVi (pc := 59) (ws' := (wX12_creaks0 E h h_tape h_far h_from h_real h_other h_kept h_set h_w h_book h_noteSort h_whose h_what h_noteIs h_fitting h_dawn h_likes h_walked h_came 0 v_trouble_59 v_where_59 v_read v_taped v_size v_at v_sort v_place v_sign v_number v_fault v_wrongAt v_word v_marks v_notes v_w)) (As := [.int x23_2]) (rest := []) C (ctX12_good l E h h_tape h_far h_from h_real h_other h_kept h_set h_w h_book h_noteSort h_whose h_what h_noteIs h_fitting h_dawn h_likes h_walked h_came 0 v_trouble v_where none v_read v_taped v_size v_at v_sort v_place v_sign v_number v_fault v_wrongAt v_word v_marks v_notes N x23_2 (r_59, v_trouble_59, v_where_59) hc_59) ml_X12_81 ⟨Nat.le_of_ble_eq_true rfl, Nat.le_of_ble_eq_true rfl⟩ hP hD hS 0 rfl rfl rfl [0] [2, 1] 2 rfl rfl rfl rfl rfl rfl rfl hl.1 rfl (Nat.le_of_ble_eq_true rfl) ⟨Nat.zero_le _, Nat.zero_le _⟩ dX12_creaks_59 ?_
          clear hP hD hS; intro H locs hP hD hS
          cases hf
          rw [hQ]
          exact r_iret C hr hP hD hS rfl dX12_creaks_62
        · replace hf := it_f c_31 hf
          refine lv_iload_n (pc := 34) hx hb dX12_creaks_34 rfl (lv_at hl 2 rfl) ?_
          refine lv_aload_n (pc := 35) hx hb dX12_creaks_35 rfl (lv_at hl 0 rfl) ?_
          refine lv_iload_n (pc := 36) hx hb dX12_creaks_36 rfl (lv_at hl 1 rfl) ?_
          refine lv_iload_n (pc := 37) hx hb dX12_creaks_37 rfl (lv_at hl 3 rfl) ?_
          obtain ⟨r_38, hc_38, hf⟩ := bd1 hf
          refine r_dalVi (pc := 38) (ws' := (wX12_creaks0 E h h_tape h_far h_from h_real h_other h_kept h_set h_w h_book h_noteSort h_whose h_what h_noteIs h_fitting h_dawn h_likes h_walked h_came 0 v_trouble v_where v_read v_taped v_size v_at v_sort v_place v_sign v_number v_fault v_wrongAt v_word v_marks v_notes v_w)) (As := [.int p0, .int x23_3]) (rest := [.int x23_2]) C (ctX12_hears l E h h_tape h_far h_from h_real h_other h_kept h_set h_w h_book h_noteSort h_whose h_what h_noteIs h_fitting h_dawn h_likes h_walked h_came 0 v_trouble v_where none v_read v_taped v_size v_at v_sort v_place v_sign v_number v_fault v_wrongAt v_word v_marks v_notes v_w N p0 x23_3 r_38 hc_38) ml_X12_439 ⟨Nat.le_of_ble_eq_true rfl, Nat.le_of_ble_eq_true rfl⟩ hP hD hS 0 rfl rfl rfl [0, 1] [2, 3] 2 rfl rfl rfl rfl rfl rfl rfl hl.1 rfl (Nat.le_of_ble_eq_true rfl) ⟨Nat.zero_le _, Nat.zero_le _⟩ dX12_creaks_38 ?_
          clear hP hD hS; intro H locs hP hD hS
          refine jnK hf (fun j49 ej49 hf => ?_)
          have hj49 : ∀ (x49_s0 : Int32) (x49_s1 : Int32) , j49 (x49_s0, x49_s1) = some z → AT p l e (rmOf 2 43) s m args below meth c E A Q 0 0 4 [(0, .ref h), (1, .int p0), (3, .int x23_3)] (wX12_creaks0 E h h_tape h_far h_from h_real h_other h_kept h_set h_w h_book h_noteSort h_whose h_what h_noteIs h_fitting h_dawn h_likes h_walked h_came 0 v_trouble v_where v_read v_taped v_size v_at v_sort v_place v_sign v_number v_fault v_wrongAt v_word v_marks v_notes v_w) 49 [.int x49_s1, .int x49_s0] := by
            intro x49_s0 x49_s1 hf H locs ls hl hP hD hS
            rw [ej49] at hf
            replace hf := un2_s hf
            refine lv_iadd (pc := 49) hx hb dX12_creaks_49 ?_
            refine lv_istore_n (pc := 50) (lv' := [(2, .int (x49_s0 + x49_s1)), (0, .ref h), (1, .int p0), (3, .int x23_3)]) hx hb dX12_creaks_50 rfl hl (by decide) rfl (fun ls hl => ?_)
            refine lv_iinc (pc := 51) (v := x23_3 + 1) (lv' := [(3, .int (x23_3 + 1)), (2, .int (x49_s0 + x49_s1)), (0, .ref h), (1, .int p0)]) hx hb dX12_creaks_51 hl (k := 3) rfl rfl (by decide) rfl (fun ls hl => ?_)
            refine lv_goto (pc := 54) (tgt := 23) hx hb dX12_creaks_54 (by decide) ?_
            exact ih23 (x49_s0 + x49_s1) (x23_3 + 1) hf _ _ _ (lv_sub hl [2, 3, 1, 0] rfl) hP hD hS
          clear ej49
          refine lv_if_eq (pc := 41) (tgt := 48) hx hb dX12_creaks_41 (by decide) (fun c_41 => ?_) (fun c_41 => ?_)
          · replace hf := it_t c_41 hf
            refine lv_iconst (pc := 48) (v := 0) hx hb dX12_creaks_48 (by decide) ?_
            exact hj49 x23_2 0 hf _ _ _ (lv_sub hl [0, 1, 3] rfl) hP hD hS
          · replace hf := it_f c_41 hf
            refine lv_iconst (pc := 44) (v := 1) hx hb dX12_creaks_44 (by decide) ?_
            refine lv_goto (pc := 45) (tgt := 49) hx hb dX12_creaks_45 (by decide) ?_
            exact hj49 x23_2 1 hf _ _ _ (lv_sub hl [0, 1, 3] rfl) hP hD hS
    exact key23 _ 0 1 hf _ _ _ (lv_sub hl [2, 3, 1, 0] rfl) hP hD hS
  · replace hf := it_t c_10 hf
    refine lv_aload_n (pc := 13) hx hb dX12_creaks_13 rfl (lv_at hl 0 rfl) ?_
    refine lv_iconst (pc := 14) (v := 1) hx hb dX12_creaks_14 (by decide) ?_
    obtain ⟨r_15, v_trouble_15, v_where_15, hc_15, hf⟩ := bd3 hf
    refine r_dalVi (pc := 15) (ws' := (wX12_creaks0 E h h_tape h_far h_from h_real h_other h_kept h_set h_w h_book h_noteSort h_whose h_what h_noteIs h_fitting h_dawn h_likes h_walked h_came 0 v_trouble_15 v_where_15 v_read v_taped v_size v_at v_sort v_place v_sign v_number v_fault v_wrongAt v_word v_marks v_notes v_w)) (As := [.int 1]) (rest := []) C (ctX12_refused l E h h_tape h_far h_from h_real h_other h_kept h_set h_w h_book h_noteSort h_whose h_what h_noteIs h_fitting h_dawn h_likes h_walked h_came 0 v_trouble v_where none v_read v_taped v_size v_at v_sort v_place v_sign v_number v_fault v_wrongAt v_word v_marks v_notes N 1 (r_15, v_trouble_15, v_where_15) hc_15) ml_X12_77 ⟨Nat.le_of_ble_eq_true rfl, Nat.le_of_ble_eq_true rfl⟩ hP hD hS 0 rfl rfl rfl [0] [2, 1] 2 rfl rfl rfl rfl rfl rfl rfl hl.1 rfl (Nat.le_of_ble_eq_true rfl) ⟨Nat.zero_le _, Nat.zero_le _⟩ dX12_creaks_15 ?_
    clear hP hD hS; intro H locs hP hD hS
    cases hf
    rw [hQ]
    exact r_iret C hr hP hD hS rfl dX12_creaks_18
def wX12_plays (E : EN) (h h_inn h_tape h_far h_from h_real h_other h_kept h_set h_w h_book h_noteSort h_whose h_what h_noteIs h_fitting h_dawn h_likes h_walked h_came h_inn_creak h_inn_doorA h_inn_doorB h_inn_how h_inn_lies h_inn_isCold h_inn_falls h_inn_isFull h_inn_isTold h_inn_act h_inn_what h_inn_then h_inn_met h_inn_bed h_inn_dream h_inn_listens h_inn_name h_inn_nameSort h_inn_nameNumber : Nat) (v_thrown : Int32) (v_trouble : Int32) (v_where : Int32) (v_read : Option Nat) (v_taped : Int32) (v_size : Int32) (v_at : Int32) (v_sort : Int32) (v_place : Int32) (v_sign : Int32) (v_number : Int32) (v_fault : Int32) (v_wrongAt : Int32) (v_word : Int64) (v_marks : Int32) (v_notes : Int32) (v_inn_minutes : Int32) (v_inn_rooms : Int32) (v_inn_doors : Int32) (v_inn_things : Int32) (v_inn_dreams : Int32) (v_inn_sleepers : Int32) (v_inn_listeners : Int32) (v_inn_names : Int32) (v_w : Nat → Int32) (v_inn_how : Nat → Int32) (v_inn_lies : Nat → Int32) (v_inn_isFull : Nat → Int32) (v_inn_bed : Nat → Int32) (v_inn_isTold : Nat → Int32) (v_inn_act : Nat → Int32) (v_inn_then : Nat → Int32) (v_inn_what : Nat → Int32) (v_inn_doorA : Nat → Int32) (v_inn_doorB : Nat → Int32) (v_from : Nat → Int32) (v_inn_falls : Nat → Int32) (v_inn_creak : Nat → Int32) (v_inn_listens : Nat → Int32) (v_far : Nat → Int32) (v_inn_isCold : Nat → Int32) (v_inn_met : Nat → Int32) : va_W := [(h, .inr (11, [.int v_thrown, .int v_trouble, .int v_where, .ref h_inn, va_rf v_read, .ref h_tape, .int v_taped, .int v_size, .int v_at, .int v_sort, .int v_place, .int v_sign, .int v_number, .int v_fault, .int v_wrongAt, .long v_word, .ref h_far, .ref h_from, .ref h_real, .ref h_other, .ref h_kept, .ref h_set, .ref h_w, .int v_marks, .int v_notes, .ref h_book, .ref h_noteSort, .ref h_whose, .ref h_what, .ref h_noteIs, .ref h_fitting, .ref h_dawn, .ref h_likes, .ref h_walked, .ref h_came])), (h_inn, .inr (10, [.int v_inn_minutes, .int v_inn_rooms, .int v_inn_doors, .int v_inn_things, .int v_inn_dreams, .int v_inn_sleepers, .int v_inn_listeners, .int v_inn_names, .ref h_inn_creak, .ref h_inn_doorA, .ref h_inn_doorB, .ref h_inn_how, .ref h_inn_lies, .ref h_inn_isCold, .ref h_inn_falls, .ref h_inn_isFull, .ref h_inn_isTold, .ref h_inn_act, .ref h_inn_what, .ref h_inn_then, .ref h_inn_met, .ref h_inn_bed, .ref h_inn_dream, .ref h_inn_listens, .ref h_inn_name, .ref h_inn_nameSort, .ref h_inn_nameNumber])), (h_w, aI E 51 v_w), (h_inn_how, aI E 10 v_inn_how), (h_inn_lies, aI E 4 v_inn_lies), (h_inn_isFull, aZ E 4 v_inn_isFull), (h_inn_bed, aI E 3 v_inn_bed), (h_inn_isTold, aZ E 16 v_inn_isTold), (h_inn_act, aI E 16 v_inn_act), (h_inn_then, aI E 16 v_inn_then), (h_inn_what, aI E 16 v_inn_what), (h_inn_doorA, aI E 10 v_inn_doorA), (h_inn_doorB, aI E 10 v_inn_doorB), (h_from, aI E 8 v_from), (h_inn_falls, aZ E 10 v_inn_falls), (h_inn_creak, aI E 8 v_inn_creak), (h_inn_listens, aI E 3 v_inn_listens), (h_far, aI E 64 v_far), (h_inn_isCold, aZ E 8 v_inn_isCold), (h_inn_met, aI E 16 v_inn_met)]
def fX12_plays (N : Nat) (p0 : Int32) (p1 : Int32) (v_inn_minutes : Int32) (v_inn_rooms : Int32) (v_inn_doors : Int32) (v_inn_things : Int32) (v_inn_sleepers : Int32) (v_inn_listeners : Int32) (v_w : Nat → Int32) (v_inn_how : Nat → Int32) (v_inn_lies : Nat → Int32) (v_inn_isFull : Nat → Int32) (v_inn_bed : Nat → Int32) (v_inn_isTold : Nat → Int32) (v_inn_act : Nat → Int32) (v_inn_then : Nat → Int32) (v_inn_what : Nat → Int32) (v_inn_doorA : Nat → Int32) (v_inn_doorB : Nat → Int32) (v_from : Nat → Int32) (v_inn_falls : Nat → Int32) (v_inn_creak : Nat → Int32) (v_inn_listens : Nat → Int32) (v_far : Nat → Int32) (v_inn_isCold : Nat → Int32) (v_inn_met : Nat → Int32) : Option ((Nat → Int32) × (Nat → Int32)) := (fX12_fallsNight N p0 v_inn_doors v_inn_things v_inn_sleepers v_w v_inn_how v_inn_lies v_inn_isFull v_inn_bed).bind (un1 fun (v_w_2 : Nat → Int32) => (fX12_passAll N p1 v_w_2 v_inn_minutes v_inn_rooms v_inn_doors v_inn_sleepers v_inn_listeners v_inn_isTold v_inn_act v_inn_then v_inn_what v_inn_doorA v_inn_doorB v_from v_inn_falls v_inn_creak v_inn_listens v_far v_inn_isCold v_inn_met).bind (un3 fun (r_7 : Int32) (v_w_7 : Nat → Int32) (v_from_7 : Nat → Int32) => some (v_w_7, v_from_7)))
set_option maxHeartbeats 4000000 in
set_option maxRecDepth 100000 in
theorem ctX12_plays (l : Launch) (E : EN) (h h_inn h_tape h_far h_from h_real h_other h_kept h_set h_w h_book h_noteSort h_whose h_what h_noteIs h_fitting h_dawn h_likes h_walked h_came h_inn_creak h_inn_doorA h_inn_doorB h_inn_how h_inn_lies h_inn_isCold h_inn_falls h_inn_isFull h_inn_isTold h_inn_act h_inn_what h_inn_then h_inn_met h_inn_bed h_inn_dream h_inn_listens h_inn_name h_inn_nameSort h_inn_nameNumber : Nat) (v_thrown : Int32) (v_trouble : Int32) (v_where : Int32) (v_read : Option Nat) (v_taped : Int32) (v_size : Int32) (v_at : Int32) (v_sort : Int32) (v_place : Int32) (v_sign : Int32) (v_number : Int32) (v_fault : Int32) (v_wrongAt : Int32) (v_word : Int64) (v_marks : Int32) (v_notes : Int32) (v_inn_minutes : Int32) (v_inn_rooms : Int32) (v_inn_doors : Int32) (v_inn_things : Int32) (v_inn_dreams : Int32) (v_inn_sleepers : Int32) (v_inn_listeners : Int32) (v_inn_names : Int32) (v_w : Nat → Int32) (v_inn_how : Nat → Int32) (v_inn_lies : Nat → Int32) (v_inn_isFull : Nat → Int32) (v_inn_bed : Nat → Int32) (v_inn_isTold : Nat → Int32) (v_inn_act : Nat → Int32) (v_inn_then : Nat → Int32) (v_inn_what : Nat → Int32) (v_inn_doorA : Nat → Int32) (v_inn_doorB : Nat → Int32) (v_from : Nat → Int32) (v_inn_falls : Nat → Int32) (v_inn_creak : Nat → Int32) (v_inn_listens : Nat → Int32) (v_far : Nat → Int32) (v_inn_isCold : Nat → Int32) (v_inn_met : Nat → Int32) (N : Nat) (p0 : Int32) (p1 : Int32) (z : (Nat → Int32) × (Nat → Int32)) (hf : fX12_plays N p0 p1 v_inn_minutes v_inn_rooms v_inn_doors v_inn_things v_inn_sleepers v_inn_listeners v_w v_inn_how v_inn_lies v_inn_isFull v_inn_bed v_inn_isTold v_inn_act v_inn_then v_inn_what v_inn_doorA v_inn_doorB v_from v_inn_falls v_inn_creak v_inn_listens v_far v_inn_isCold v_inn_met = some z) : CTv l E yX12_plays cX12_plays 3 6 138 [.ref h, .int p0, .int p1] (wX12_plays E h h_inn h_tape h_far h_from h_real h_other h_kept h_set h_w h_book h_noteSort h_whose h_what h_noteIs h_fitting h_dawn h_likes h_walked h_came h_inn_creak h_inn_doorA h_inn_doorB h_inn_how h_inn_lies h_inn_isCold h_inn_falls h_inn_isFull h_inn_isTold h_inn_act h_inn_what h_inn_then h_inn_met h_inn_bed h_inn_dream h_inn_listens h_inn_name h_inn_nameSort h_inn_nameNumber v_thrown v_trouble v_where v_read v_taped v_size v_at v_sort v_place v_sign v_number v_fault v_wrongAt v_word v_marks v_notes v_inn_minutes v_inn_rooms v_inn_doors v_inn_things v_inn_dreams v_inn_sleepers v_inn_listeners v_inn_names v_w v_inn_how v_inn_lies v_inn_isFull v_inn_bed v_inn_isTold v_inn_act v_inn_then v_inn_what v_inn_doorA v_inn_doorB v_from v_inn_falls v_inn_creak v_inn_listens v_far v_inn_isCold v_inn_met) (wX12_plays E h h_inn h_tape h_far h_from h_real h_other h_kept h_set h_w h_book h_noteSort h_whose h_what h_noteIs h_fitting h_dawn h_likes h_walked h_came h_inn_creak h_inn_doorA h_inn_doorB h_inn_how h_inn_lies h_inn_isCold h_inn_falls h_inn_isFull h_inn_isTold h_inn_act h_inn_what h_inn_then h_inn_met h_inn_bed h_inn_dream h_inn_listens h_inn_name h_inn_nameSort h_inn_nameNumber v_thrown v_trouble v_where v_read v_taped v_size v_at v_sort v_place v_sign v_number v_fault v_wrongAt v_word v_marks v_notes v_inn_minutes v_inn_rooms v_inn_doors v_inn_things v_inn_dreams v_inn_sleepers v_inn_listeners v_inn_names z.1 v_inn_how v_inn_lies v_inn_isFull v_inn_bed v_inn_isTold v_inn_act v_inn_then v_inn_what v_inn_doorA v_inn_doorB z.2 v_inn_falls v_inn_creak v_inn_listens v_far v_inn_isCold v_inn_met) := by
  intro sz
  refine ct_body (by decide) (Nat.le_of_ble_eq_true rfl) ?_
  intro p e s m args below meth c A ls hAe C hr hin hP hD hS hl
  have C : CX p s m args meth c cX12_plays RX12 3 E A := C
  have hl : lv_has ls 3 [(0, .ref h), (1, .int p0), (2, .int p1)] := hl
  have hx := C.1
  have hb := C.2.1
  rw [hAe]
  clear hAe
  obtain ⟨Q, hQ⟩ : ∃ Q, Q = MQ below (Qv E A (wX12_plays E h h_inn h_tape h_far h_from h_real h_other h_kept h_set h_w h_book h_noteSort h_whose h_what h_noteIs h_fitting h_dawn h_likes h_walked h_came h_inn_creak h_inn_doorA h_inn_doorB h_inn_how h_inn_lies h_inn_isCold h_inn_falls h_inn_isFull h_inn_isTold h_inn_act h_inn_what h_inn_then h_inn_met h_inn_bed h_inn_dream h_inn_listens h_inn_name h_inn_nameSort h_inn_nameNumber v_thrown v_trouble v_where v_read v_taped v_size v_at v_sort v_place v_sign v_number v_fault v_wrongAt v_word v_marks v_notes v_inn_minutes v_inn_rooms v_inn_doors v_inn_things v_inn_dreams v_inn_sleepers v_inn_listeners v_inn_names z.1 v_inn_how v_inn_lies v_inn_isFull v_inn_bed v_inn_isTold v_inn_act v_inn_then v_inn_what v_inn_doorA v_inn_doorB z.2 v_inn_falls v_inn_creak v_inn_listens v_far v_inn_isCold v_inn_met)) args s 0 0 A := ⟨_, rfl⟩
  rw [← hQ]
  unfold fX12_plays at hf
  refine lv_aload_n (pc := 0) hx hb dX12_plays_0 rfl (lv_at hl 0 rfl) ?_
  refine lv_iload_n (pc := 1) hx hb dX12_plays_1 rfl (lv_at hl 1 rfl) ?_
  obtain ⟨v_w_2, hc_2, hf⟩ := bd1 hf
  refine r_dalVv (pc := 2) (ws' := (wX12_plays E h h_inn h_tape h_far h_from h_real h_other h_kept h_set h_w h_book h_noteSort h_whose h_what h_noteIs h_fitting h_dawn h_likes h_walked h_came h_inn_creak h_inn_doorA h_inn_doorB h_inn_how h_inn_lies h_inn_isCold h_inn_falls h_inn_isFull h_inn_isTold h_inn_act h_inn_what h_inn_then h_inn_met h_inn_bed h_inn_dream h_inn_listens h_inn_name h_inn_nameSort h_inn_nameNumber v_thrown v_trouble v_where v_read v_taped v_size v_at v_sort v_place v_sign v_number v_fault v_wrongAt v_word v_marks v_notes v_inn_minutes v_inn_rooms v_inn_doors v_inn_things v_inn_dreams v_inn_sleepers v_inn_listeners v_inn_names v_w_2 v_inn_how v_inn_lies v_inn_isFull v_inn_bed v_inn_isTold v_inn_act v_inn_then v_inn_what v_inn_doorA v_inn_doorB v_from v_inn_falls v_inn_creak v_inn_listens v_far v_inn_isCold v_inn_met)) (As := [.int p0]) (rest := []) C (ctX12_fallsNight l E h h_inn h_tape h_far h_from h_real h_other h_kept h_set h_w h_book h_noteSort h_whose h_what h_noteIs h_fitting h_dawn h_likes h_walked h_came h_inn_creak h_inn_doorA h_inn_doorB h_inn_how h_inn_lies h_inn_isCold h_inn_falls h_inn_isFull h_inn_isTold h_inn_act h_inn_what h_inn_then h_inn_met h_inn_bed h_inn_dream h_inn_listens h_inn_name h_inn_nameSort h_inn_nameNumber v_thrown v_trouble v_where v_read v_taped v_size v_at v_sort v_place v_sign v_number v_fault v_wrongAt v_word v_marks v_notes v_inn_minutes v_inn_rooms v_inn_doors v_inn_things v_inn_dreams v_inn_sleepers v_inn_listeners v_inn_names v_w v_inn_how v_inn_lies v_inn_isFull v_inn_bed N p0 v_w_2 hc_2) ml_X12_369 ⟨Nat.le_of_ble_eq_true rfl, Nat.le_of_ble_eq_true rfl⟩ hP hD hS 0 rfl rfl rfl [0, 1, 2, 3, 4, 5, 6] [20, 21, 22, 23, 24, 25, 26, 7, 8, 9, 10, 11, 12, 13, 14, 15, 16, 17, 18, 19] 20 rfl rfl rfl rfl rfl rfl rfl hl.1 rfl (Nat.le_of_ble_eq_true rfl) ⟨Nat.zero_le _, Nat.zero_le _⟩ dX12_plays_2 ?_
  clear hP hD hS; intro H locs hP hD hS
  refine lv_aload_n (pc := 5) hx hb dX12_plays_5 rfl (lv_at hl 0 rfl) ?_
  refine lv_iload_n (pc := 6) hx hb dX12_plays_6 rfl (lv_at hl 2 rfl) ?_
  obtain ⟨r_7, v_w_7, v_from_7, hc_7, hf⟩ := bd3 hf
  refine r_dalVi (pc := 7) (ws' := (wX12_plays E h h_inn h_tape h_far h_from h_real h_other h_kept h_set h_w h_book h_noteSort h_whose h_what h_noteIs h_fitting h_dawn h_likes h_walked h_came h_inn_creak h_inn_doorA h_inn_doorB h_inn_how h_inn_lies h_inn_isCold h_inn_falls h_inn_isFull h_inn_isTold h_inn_act h_inn_what h_inn_then h_inn_met h_inn_bed h_inn_dream h_inn_listens h_inn_name h_inn_nameSort h_inn_nameNumber v_thrown v_trouble v_where v_read v_taped v_size v_at v_sort v_place v_sign v_number v_fault v_wrongAt v_word v_marks v_notes v_inn_minutes v_inn_rooms v_inn_doors v_inn_things v_inn_dreams v_inn_sleepers v_inn_listeners v_inn_names v_w_7 v_inn_how v_inn_lies v_inn_isFull v_inn_bed v_inn_isTold v_inn_act v_inn_then v_inn_what v_inn_doorA v_inn_doorB v_from_7 v_inn_falls v_inn_creak v_inn_listens v_far v_inn_isCold v_inn_met)) (As := [.int p1]) (rest := []) C (ctX12_passAll l E h h_inn h_tape h_far h_from h_real h_other h_kept h_set h_w h_book h_noteSort h_whose h_what h_noteIs h_fitting h_dawn h_likes h_walked h_came h_inn_creak h_inn_doorA h_inn_doorB h_inn_how h_inn_lies h_inn_isCold h_inn_falls h_inn_isFull h_inn_isTold h_inn_act h_inn_what h_inn_then h_inn_met h_inn_bed h_inn_dream h_inn_listens h_inn_name h_inn_nameSort h_inn_nameNumber v_thrown v_trouble v_where v_read v_taped v_size v_at v_sort v_place v_sign v_number v_fault v_wrongAt v_word v_marks v_notes v_w_2 v_inn_minutes v_inn_rooms v_inn_doors v_inn_things v_inn_dreams v_inn_sleepers v_inn_listeners v_inn_names v_inn_isTold v_inn_act v_inn_then v_inn_what v_inn_doorA v_inn_doorB v_from v_inn_falls v_inn_creak v_inn_listens v_far v_inn_isCold v_inn_met N p1 (r_7, v_w_7, v_from_7) hc_7) ml_X12_427 ⟨Nat.le_of_ble_eq_true rfl, Nat.le_of_ble_eq_true rfl⟩ hP hD hS 0 rfl rfl rfl [0, 2, 1, 7, 8, 9, 10, 11, 12, 13, 14, 15, 16, 17, 18, 19] [20, 22, 21, 3, 4, 5, 6, 23, 24, 25, 26, 27, 28, 29, 30, 31, 32, 33, 34, 35] 20 rfl rfl rfl rfl rfl rfl rfl hl.1 rfl (Nat.le_of_ble_eq_true rfl) ⟨Nat.zero_le _, Nat.zero_le _⟩ dX12_plays_7 ?_
  clear hP hD hS; intro H locs hP hD hS
  refine lv_pop (pc := 10) hx hb dX12_plays_10 rfl ?_
  cases hf
  rw [hQ]
  exact r_vret C hr hP hD hS dX12_plays_11
def wX12_called (E : EN) (h h_inn h_tape h_far h_from h_real h_other h_kept h_set h_book h_noteSort h_whose h_what h_noteIs h_fitting h_dawn h_likes h_walked h_came h_inn_creak h_inn_doorA h_inn_doorB h_inn_how h_inn_lies h_inn_isCold h_inn_falls h_inn_isFull h_inn_isTold h_inn_act h_inn_what h_inn_then h_inn_met h_inn_bed h_inn_dream h_inn_listens h_inn_name h_inn_nameSort h_inn_nameNumber : Nat) (v_thrown : Int32) (v_trouble : Int32) (v_where : Int32) (v_read : Option Nat) (v_taped : Int32) (v_size : Int32) (v_at : Int32) (v_sort : Int32) (v_place : Int32) (v_sign : Int32) (v_number : Int32) (v_fault : Int32) (v_wrongAt : Int32) (v_word : Int64) (v_marks : Int32) (v_notes : Int32) (v_inn_minutes : Int32) (v_inn_rooms : Int32) (v_inn_doors : Int32) (v_inn_things : Int32) (v_inn_dreams : Int32) (v_inn_sleepers : Int32) (v_inn_listeners : Int32) (v_inn_names : Int32) (v_other : Nat → Int32) (v_inn_how : Nat → Int32) (v_inn_lies : Nat → Int32) (v_inn_isFull : Nat → Int32) (v_inn_bed : Nat → Int32) (v_inn_isTold : Nat → Int32) (v_inn_act : Nat → Int32) (v_inn_then : Nat → Int32) (v_inn_what : Nat → Int32) (v_inn_doorA : Nat → Int32) (v_inn_doorB : Nat → Int32) (v_from : Nat → Int32) (v_inn_falls : Nat → Int32) (v_inn_creak : Nat → Int32) (v_inn_listens : Nat → Int32) (v_far : Nat → Int32) (v_inn_isCold : Nat → Int32) (v_inn_met : Nat → Int32) (v_set : Nat → Int32) : va_W := [(h, .inr (11, [.int v_thrown, .int v_trouble, .int v_where, .ref h_inn, va_rf v_read, .ref h_tape, .int v_taped, .int v_size, .int v_at, .int v_sort, .int v_place, .int v_sign, .int v_number, .int v_fault, .int v_wrongAt, .long v_word, .ref h_far, .ref h_from, .ref h_real, .ref h_other, .ref h_kept, .ref h_set, .ref h_real, .int v_marks, .int v_notes, .ref h_book, .ref h_noteSort, .ref h_whose, .ref h_what, .ref h_noteIs, .ref h_fitting, .ref h_dawn, .ref h_likes, .ref h_walked, .ref h_came])), (h_inn, .inr (10, [.int v_inn_minutes, .int v_inn_rooms, .int v_inn_doors, .int v_inn_things, .int v_inn_dreams, .int v_inn_sleepers, .int v_inn_listeners, .int v_inn_names, .ref h_inn_creak, .ref h_inn_doorA, .ref h_inn_doorB, .ref h_inn_how, .ref h_inn_lies, .ref h_inn_isCold, .ref h_inn_falls, .ref h_inn_isFull, .ref h_inn_isTold, .ref h_inn_act, .ref h_inn_what, .ref h_inn_then, .ref h_inn_met, .ref h_inn_bed, .ref h_inn_dream, .ref h_inn_listens, .ref h_inn_name, .ref h_inn_nameSort, .ref h_inn_nameNumber])), (h_other, aI E 51 v_other), (h_inn_how, aI E 10 v_inn_how), (h_inn_lies, aI E 4 v_inn_lies), (h_inn_isFull, aZ E 4 v_inn_isFull), (h_inn_bed, aI E 3 v_inn_bed), (h_inn_isTold, aZ E 16 v_inn_isTold), (h_inn_act, aI E 16 v_inn_act), (h_inn_then, aI E 16 v_inn_then), (h_inn_what, aI E 16 v_inn_what), (h_inn_doorA, aI E 10 v_inn_doorA), (h_inn_doorB, aI E 10 v_inn_doorB), (h_from, aI E 8 v_from), (h_inn_falls, aZ E 10 v_inn_falls), (h_inn_creak, aI E 8 v_inn_creak), (h_inn_listens, aI E 3 v_inn_listens), (h_far, aI E 64 v_far), (h_inn_isCold, aZ E 8 v_inn_isCold), (h_inn_met, aI E 16 v_inn_met), (h_set, aI E 3 v_set)]
def BX12_called_59 (v_inn_sleepers : Int32) (N : Nat) (p0 : Int32) (p2 : Int32) (v_inn_minutes : Int32) (v_inn_rooms : Int32) (v_inn_doors : Int32) (v_inn_things : Int32) (v_inn_listeners : Int32) (v_inn_how : Nat → Int32) (v_inn_lies : Nat → Int32) (v_inn_isFull : Nat → Int32) (v_inn_bed : Nat → Int32) (v_inn_isTold : Nat → Int32) (v_inn_act : Nat → Int32) (v_inn_then : Nat → Int32) (v_inn_what : Nat → Int32) (v_inn_doorA : Nat → Int32) (v_inn_doorB : Nat → Int32) (v_from : Nat → Int32) (v_inn_falls : Nat → Int32) (v_inn_creak : Nat → Int32) (v_inn_listens : Nat → Int32) (v_far : Nat → Int32) (v_inn_isCold : Nat → Int32) (v_inn_met : Nat → Int32) (p1 : Int32) (v_set : Nat → Int32) (rec59 : (Int32 × (Nat → Int32)) → Option (Int32 × Int32 × Int32 × Int32 × (Nat → Int32) × (Nat → Int32))) : (Int32 × (Nat → Int32)) → Option (Int32 × Int32 × Int32 × Int32 × (Nat → Int32) × (Nat → Int32)) := un2 fun (x59_4 : Int32) (x59_other : Nat → Int32) => if v_inn_sleepers ≤ x59_4 then ((fX12_plays N p0 p2 v_inn_minutes v_inn_rooms v_inn_doors v_inn_things v_inn_sleepers v_inn_listeners x59_other v_inn_how v_inn_lies v_inn_isFull v_inn_bed v_inn_isTold v_inn_act v_inn_then v_inn_what v_inn_doorA v_inn_doorB v_from v_inn_falls v_inn_creak v_inn_listens v_far v_inn_isCold v_inn_met).bind (un2 fun (v_other_97 : Nat → Int32) (v_from_97 : Nat → Int32) => gd (0 + p1) 51 ((fX12_good N (v_other_97 (0 + p1).toNatClampNeg)).bind (un3 fun (r_121 : Int32) (v_trouble_121 : Int32) (v_where_121 : Int32) => some (r_121, 0, v_trouble_121, v_where_121, v_other_97, v_from_97))))) else (gd x59_4 3 (gd (12 + x59_4) 51 (rec59 (x59_4 + 1, upd x59_other (12 + x59_4).toNatClampNeg (v_set x59_4.toNatClampNeg)))))
def fX12_called (N : Nat) (p0 : Int32) (p1 : Int32) (p2 : Int32) (v_inn_minutes : Int32) (v_inn_rooms : Int32) (v_inn_doors : Int32) (v_inn_things : Int32) (v_inn_sleepers : Int32) (v_inn_listeners : Int32) (v_other : Nat → Int32) (v_inn_how : Nat → Int32) (v_inn_lies : Nat → Int32) (v_inn_isFull : Nat → Int32) (v_inn_bed : Nat → Int32) (v_inn_isTold : Nat → Int32) (v_inn_act : Nat → Int32) (v_inn_then : Nat → Int32) (v_inn_what : Nat → Int32) (v_inn_doorA : Nat → Int32) (v_inn_doorB : Nat → Int32) (v_from : Nat → Int32) (v_inn_falls : Nat → Int32) (v_inn_creak : Nat → Int32) (v_inn_listens : Nat → Int32) (v_far : Nat → Int32) (v_inn_isCold : Nat → Int32) (v_inn_met : Nat → Int32) (v_set : Nat → Int32) : Option (Int32 × Int32 × Int32 × Int32 × (Nat → Int32) × (Nat → Int32)) := (fX12_isSetting N p0 v_inn_doors).bind (un1 fun (r_7 : Int32) => if r_7 = 0 then ((fX12_refused N 1).bind (un3 fun (r_23 : Int32) (v_trouble_23 : Int32) (v_where_23 : Int32) => some (r_23, 0, v_trouble_23, v_where_23, v_other, v_from))) else ((fX12_isSleeper N p1 v_inn_sleepers).bind (un1 fun (r_15 : Int32) => if r_15 = 0 then ((fX12_refused N 1).bind (un3 fun (r_23 : Int32) (v_trouble_23 : Int32) (v_where_23 : Int32) => some (r_23, 0, v_trouble_23, v_where_23, v_other, v_from))) else ((fX12_in N p2 0 v_inn_minutes).bind (un1 fun (r_36 : Int32) => if r_36 = 0 then ((fX12_refused N 2).bind (un3 fun (r_44 : Int32) (v_trouble_44 : Int32) (v_where_44 : Int32) => some (r_44, 0, v_trouble_44, v_where_44, v_other, v_from))) else (lp (BX12_called_59 v_inn_sleepers N p0 p2 v_inn_minutes v_inn_rooms v_inn_doors v_inn_things v_inn_listeners v_inn_how v_inn_lies v_inn_isFull v_inn_bed v_inn_isTold v_inn_act v_inn_then v_inn_what v_inn_doorA v_inn_doorB v_from v_inn_falls v_inn_creak v_inn_listens v_far v_inn_isCold v_inn_met p1 v_set) N (0, v_other)))))))
set_option maxHeartbeats 4000000 in
set_option maxRecDepth 100000 in
theorem ctX12_called (l : Launch) (E : EN) (h h_inn h_tape h_far h_from h_real h_other h_kept h_set h_book h_noteSort h_whose h_what h_noteIs h_fitting h_dawn h_likes h_walked h_came h_inn_creak h_inn_doorA h_inn_doorB h_inn_how h_inn_lies h_inn_isCold h_inn_falls h_inn_isFull h_inn_isTold h_inn_act h_inn_what h_inn_then h_inn_met h_inn_bed h_inn_dream h_inn_listens h_inn_name h_inn_nameSort h_inn_nameNumber : Nat) (v_thrown : Int32) (v_trouble : Int32) (v_where : Int32) (v_read : Option Nat) (v_taped : Int32) (v_size : Int32) (v_at : Int32) (v_sort : Int32) (v_place : Int32) (v_sign : Int32) (v_number : Int32) (v_fault : Int32) (v_wrongAt : Int32) (v_word : Int64) (v_marks : Int32) (v_notes : Int32) (v_inn_minutes : Int32) (v_inn_rooms : Int32) (v_inn_doors : Int32) (v_inn_things : Int32) (v_inn_dreams : Int32) (v_inn_sleepers : Int32) (v_inn_listeners : Int32) (v_inn_names : Int32) (v_other : Nat → Int32) (v_inn_how : Nat → Int32) (v_inn_lies : Nat → Int32) (v_inn_isFull : Nat → Int32) (v_inn_bed : Nat → Int32) (v_inn_isTold : Nat → Int32) (v_inn_act : Nat → Int32) (v_inn_then : Nat → Int32) (v_inn_what : Nat → Int32) (v_inn_doorA : Nat → Int32) (v_inn_doorB : Nat → Int32) (v_from : Nat → Int32) (v_inn_falls : Nat → Int32) (v_inn_creak : Nat → Int32) (v_inn_listens : Nat → Int32) (v_far : Nat → Int32) (v_inn_isCold : Nat → Int32) (v_inn_met : Nat → Int32) (v_set : Nat → Int32) (N : Nat) (p0 : Int32) (p1 : Int32) (p2 : Int32) (z : Int32 × Int32 × Int32 × Int32 × (Nat → Int32) × (Nat → Int32)) (hf : fX12_called N p0 p1 p2 v_inn_minutes v_inn_rooms v_inn_doors v_inn_things v_inn_sleepers v_inn_listeners v_other v_inn_how v_inn_lies v_inn_isFull v_inn_bed v_inn_isTold v_inn_act v_inn_then v_inn_what v_inn_doorA v_inn_doorB v_from v_inn_falls v_inn_creak v_inn_listens v_far v_inn_isCold v_inn_met v_set = some z) : CTi l E yX12_called cX12_called 5 .int 7 160 [.ref h, .int p0, .int p1, .int p2] (wX12_called E h h_inn h_tape h_far h_from h_real h_other h_kept h_set h_book h_noteSort h_whose h_what h_noteIs h_fitting h_dawn h_likes h_walked h_came h_inn_creak h_inn_doorA h_inn_doorB h_inn_how h_inn_lies h_inn_isCold h_inn_falls h_inn_isFull h_inn_isTold h_inn_act h_inn_what h_inn_then h_inn_met h_inn_bed h_inn_dream h_inn_listens h_inn_name h_inn_nameSort h_inn_nameNumber v_thrown v_trouble v_where v_read v_taped v_size v_at v_sort v_place v_sign v_number v_fault v_wrongAt v_word v_marks v_notes v_inn_minutes v_inn_rooms v_inn_doors v_inn_things v_inn_dreams v_inn_sleepers v_inn_listeners v_inn_names v_other v_inn_how v_inn_lies v_inn_isFull v_inn_bed v_inn_isTold v_inn_act v_inn_then v_inn_what v_inn_doorA v_inn_doorB v_from v_inn_falls v_inn_creak v_inn_listens v_far v_inn_isCold v_inn_met v_set) (z.1) (wX12_called E h h_inn h_tape h_far h_from h_real h_other h_kept h_set h_book h_noteSort h_whose h_what h_noteIs h_fitting h_dawn h_likes h_walked h_came h_inn_creak h_inn_doorA h_inn_doorB h_inn_how h_inn_lies h_inn_isCold h_inn_falls h_inn_isFull h_inn_isTold h_inn_act h_inn_what h_inn_then h_inn_met h_inn_bed h_inn_dream h_inn_listens h_inn_name h_inn_nameSort h_inn_nameNumber z.2.1 z.2.2.1 z.2.2.2.1 v_read v_taped v_size v_at v_sort v_place v_sign v_number v_fault v_wrongAt v_word v_marks v_notes v_inn_minutes v_inn_rooms v_inn_doors v_inn_things v_inn_dreams v_inn_sleepers v_inn_listeners v_inn_names z.2.2.2.2.1 v_inn_how v_inn_lies v_inn_isFull v_inn_bed v_inn_isTold v_inn_act v_inn_then v_inn_what v_inn_doorA v_inn_doorB z.2.2.2.2.2 v_inn_falls v_inn_creak v_inn_listens v_far v_inn_isCold v_inn_met v_set) := by
  intro sz
  refine ct_body (by decide) (Nat.le_of_ble_eq_true rfl) ?_
  intro p e s m args below meth c A ls hAe C hr hin hP hD hS hl
  have C : CX p s m args meth c cX12_called RX12 5 E A := C
  have hl : lv_has ls 5 [(0, .ref h), (1, .int p0), (2, .int p1), (3, .int p2)] := hl
  have hx := C.1
  have hb := C.2.1
  rw [hAe]
  clear hAe
  obtain ⟨Q, hQ⟩ : ∃ Q, Q = MQ below (Qi E A (z.1) (wX12_called E h h_inn h_tape h_far h_from h_real h_other h_kept h_set h_book h_noteSort h_whose h_what h_noteIs h_fitting h_dawn h_likes h_walked h_came h_inn_creak h_inn_doorA h_inn_doorB h_inn_how h_inn_lies h_inn_isCold h_inn_falls h_inn_isFull h_inn_isTold h_inn_act h_inn_what h_inn_then h_inn_met h_inn_bed h_inn_dream h_inn_listens h_inn_name h_inn_nameSort h_inn_nameNumber z.2.1 z.2.2.1 z.2.2.2.1 v_read v_taped v_size v_at v_sort v_place v_sign v_number v_fault v_wrongAt v_word v_marks v_notes v_inn_minutes v_inn_rooms v_inn_doors v_inn_things v_inn_dreams v_inn_sleepers v_inn_listeners v_inn_names z.2.2.2.2.1 v_inn_how v_inn_lies v_inn_isFull v_inn_bed v_inn_isTold v_inn_act v_inn_then v_inn_what v_inn_doorA v_inn_doorB z.2.2.2.2.2 v_inn_falls v_inn_creak v_inn_listens v_far v_inn_isCold v_inn_met v_set)) args s 0 0 A := ⟨_, rfl⟩
  rw [← hQ]
  unfold fX12_called at hf
  refine lv_aload_n (pc := 0) hx hb dX12_called_0 rfl (lv_at hl 0 rfl) ?_
  refine lv_iconst (pc := 1) (v := 0) hx hb dX12_called_1 (by decide) ?_
  refine r_put (pc := 2) (ws' := (wX12_called E h h_inn h_tape h_far h_from h_real h_other h_kept h_set h_book h_noteSort h_whose h_what h_noteIs h_fitting h_dawn h_likes h_walked h_came h_inn_creak h_inn_doorA h_inn_doorB h_inn_how h_inn_lies h_inn_isCold h_inn_falls h_inn_isFull h_inn_isTold h_inn_act h_inn_what h_inn_then h_inn_met h_inn_bed h_inn_dream h_inn_listens h_inn_name h_inn_nameSort h_inn_nameNumber 0 v_trouble v_where v_read v_taped v_size v_at v_sort v_place v_sign v_number v_fault v_wrongAt v_word v_marks v_notes v_inn_minutes v_inn_rooms v_inn_doors v_inn_things v_inn_dreams v_inn_sleepers v_inn_listeners v_inn_names v_other v_inn_how v_inn_lies v_inn_isFull v_inn_bed v_inn_isTold v_inn_act v_inn_then v_inn_what v_inn_doorA v_inn_doorB v_from v_inn_falls v_inn_creak v_inn_listens v_far v_inn_isCold v_inn_met v_set)) C hP hD hS 0 rfl fl_X12_71 rfl rfl (Nat.le_of_ble_eq_true rfl) rfl dX12_called_2 ?_
  clear hP hD hS; intro H locs hP hD hS
  refine lv_aload_n (pc := 5) hx hb dX12_called_5 rfl (lv_at hl 0 rfl) ?_
  refine lv_iload_n (pc := 6) hx hb dX12_called_6 rfl (lv_at hl 1 rfl) ?_
  obtain ⟨r_7, hc_7, hf⟩ := bd1 hf
  refine r_dalVi (pc := 7) (ws' := (wX12_called E h h_inn h_tape h_far h_from h_real h_other h_kept h_set h_book h_noteSort h_whose h_what h_noteIs h_fitting h_dawn h_likes h_walked h_came h_inn_creak h_inn_doorA h_inn_doorB h_inn_how h_inn_lies h_inn_isCold h_inn_falls h_inn_isFull h_inn_isTold h_inn_act h_inn_what h_inn_then h_inn_met h_inn_bed h_inn_dream h_inn_listens h_inn_name h_inn_nameSort h_inn_nameNumber 0 v_trouble v_where v_read v_taped v_size v_at v_sort v_place v_sign v_number v_fault v_wrongAt v_word v_marks v_notes v_inn_minutes v_inn_rooms v_inn_doors v_inn_things v_inn_dreams v_inn_sleepers v_inn_listeners v_inn_names v_other v_inn_how v_inn_lies v_inn_isFull v_inn_bed v_inn_isTold v_inn_act v_inn_then v_inn_what v_inn_doorA v_inn_doorB v_from v_inn_falls v_inn_creak v_inn_listens v_far v_inn_isCold v_inn_met v_set)) (As := [.int p0]) (rest := []) C (ctX12_isSetting l E h h_inn h_tape h_far h_from h_real h_other h_kept h_set h_real h_book h_noteSort h_whose h_what h_noteIs h_fitting h_dawn h_likes h_walked h_came h_inn_creak h_inn_doorA h_inn_doorB h_inn_how h_inn_lies h_inn_isCold h_inn_falls h_inn_isFull h_inn_isTold h_inn_act h_inn_what h_inn_then h_inn_met h_inn_bed h_inn_dream h_inn_listens h_inn_name h_inn_nameSort h_inn_nameNumber 0 v_trouble v_where v_read v_taped v_size v_at v_sort v_place v_sign v_number v_fault v_wrongAt v_word v_marks v_notes v_inn_minutes v_inn_rooms v_inn_doors v_inn_things v_inn_dreams v_inn_sleepers v_inn_listeners v_inn_names N p0 r_7 hc_7) ml_X12_412 ⟨Nat.le_of_ble_eq_true rfl, Nat.le_of_ble_eq_true rfl⟩ hP hD hS 0 rfl rfl rfl [0, 1] [21, 22, 2, 3, 4, 5, 6, 7, 8, 9, 10, 11, 12, 13, 14, 15, 16, 17, 18, 19, 20] 21 rfl rfl rfl rfl rfl rfl rfl hl.1 rfl (Nat.le_of_ble_eq_true rfl) ⟨Nat.zero_le _, Nat.zero_le _⟩ dX12_called_7 ?_
  clear hP hD hS; intro H locs hP hD hS
  refine lv_if_eq (pc := 10) (tgt := 21) hx hb dX12_called_10 (by decide) (fun c_10 => ?_) (fun c_10 => ?_)
  · replace hf := it_t c_10 hf
    refine lv_aload_n (pc := 21) hx hb dX12_called_21 rfl (lv_at hl 0 rfl) ?_
    refine lv_iconst (pc := 22) (v := 1) hx hb dX12_called_22 (by decide) ?_
    obtain ⟨r_23, v_trouble_23, v_where_23, hc_23, hf⟩ := bd3 hf
    refine r_dalVi (pc := 23) (ws' := (wX12_called E h h_inn h_tape h_far h_from h_real h_other h_kept h_set h_book h_noteSort h_whose h_what h_noteIs h_fitting h_dawn h_likes h_walked h_came h_inn_creak h_inn_doorA h_inn_doorB h_inn_how h_inn_lies h_inn_isCold h_inn_falls h_inn_isFull h_inn_isTold h_inn_act h_inn_what h_inn_then h_inn_met h_inn_bed h_inn_dream h_inn_listens h_inn_name h_inn_nameSort h_inn_nameNumber 0 v_trouble_23 v_where_23 v_read v_taped v_size v_at v_sort v_place v_sign v_number v_fault v_wrongAt v_word v_marks v_notes v_inn_minutes v_inn_rooms v_inn_doors v_inn_things v_inn_dreams v_inn_sleepers v_inn_listeners v_inn_names v_other v_inn_how v_inn_lies v_inn_isFull v_inn_bed v_inn_isTold v_inn_act v_inn_then v_inn_what v_inn_doorA v_inn_doorB v_from v_inn_falls v_inn_creak v_inn_listens v_far v_inn_isCold v_inn_met v_set)) (As := [.int 1]) (rest := []) C (ctX12_refused l E h h_tape h_far h_from h_real h_other h_kept h_set h_real h_book h_noteSort h_whose h_what h_noteIs h_fitting h_dawn h_likes h_walked h_came 0 v_trouble v_where (some h_inn) v_read v_taped v_size v_at v_sort v_place v_sign v_number v_fault v_wrongAt v_word v_marks v_notes N 1 (r_23, v_trouble_23, v_where_23) hc_23) ml_X12_77 ⟨Nat.le_of_ble_eq_true rfl, Nat.le_of_ble_eq_true rfl⟩ hP hD hS 0 rfl rfl rfl [0] [21, 1, 2, 3, 4, 5, 6, 7, 8, 9, 10, 11, 12, 13, 14, 15, 16, 17, 18, 19, 20] 21 rfl rfl rfl rfl rfl rfl rfl hl.1 rfl (Nat.le_of_ble_eq_true rfl) ⟨Nat.zero_le _, Nat.zero_le _⟩ dX12_called_23 ?_
    clear hP hD hS; intro H locs hP hD hS
    cases hf
    rw [hQ]
    exact r_iret C hr hP hD hS rfl dX12_called_26
  · replace hf := it_f c_10 hf
    refine lv_aload_n (pc := 13) hx hb dX12_called_13 rfl (lv_at hl 0 rfl) ?_
    refine lv_iload_n (pc := 14) hx hb dX12_called_14 rfl (lv_at hl 2 rfl) ?_
    obtain ⟨r_15, hc_15, hf⟩ := bd1 hf
    refine r_dalVi (pc := 15) (ws' := (wX12_called E h h_inn h_tape h_far h_from h_real h_other h_kept h_set h_book h_noteSort h_whose h_what h_noteIs h_fitting h_dawn h_likes h_walked h_came h_inn_creak h_inn_doorA h_inn_doorB h_inn_how h_inn_lies h_inn_isCold h_inn_falls h_inn_isFull h_inn_isTold h_inn_act h_inn_what h_inn_then h_inn_met h_inn_bed h_inn_dream h_inn_listens h_inn_name h_inn_nameSort h_inn_nameNumber 0 v_trouble v_where v_read v_taped v_size v_at v_sort v_place v_sign v_number v_fault v_wrongAt v_word v_marks v_notes v_inn_minutes v_inn_rooms v_inn_doors v_inn_things v_inn_dreams v_inn_sleepers v_inn_listeners v_inn_names v_other v_inn_how v_inn_lies v_inn_isFull v_inn_bed v_inn_isTold v_inn_act v_inn_then v_inn_what v_inn_doorA v_inn_doorB v_from v_inn_falls v_inn_creak v_inn_listens v_far v_inn_isCold v_inn_met v_set)) (As := [.int p1]) (rest := []) C (ctX12_isSleeper l E h h_inn h_tape h_far h_from h_real h_other h_kept h_set h_real h_book h_noteSort h_whose h_what h_noteIs h_fitting h_dawn h_likes h_walked h_came h_inn_creak h_inn_doorA h_inn_doorB h_inn_how h_inn_lies h_inn_isCold h_inn_falls h_inn_isFull h_inn_isTold h_inn_act h_inn_what h_inn_then h_inn_met h_inn_bed h_inn_dream h_inn_listens h_inn_name h_inn_nameSort h_inn_nameNumber 0 v_trouble v_where v_read v_taped v_size v_at v_sort v_place v_sign v_number v_fault v_wrongAt v_word v_marks v_notes v_inn_minutes v_inn_rooms v_inn_doors v_inn_things v_inn_dreams v_inn_sleepers v_inn_listeners v_inn_names N p1 r_15 hc_15) ml_X12_421 ⟨Nat.le_of_ble_eq_true rfl, Nat.le_of_ble_eq_true rfl⟩ hP hD hS 0 rfl rfl rfl [0, 1] [21, 22, 2, 3, 4, 5, 6, 7, 8, 9, 10, 11, 12, 13, 14, 15, 16, 17, 18, 19, 20] 21 rfl rfl rfl rfl rfl rfl rfl hl.1 rfl (Nat.le_of_ble_eq_true rfl) ⟨Nat.zero_le _, Nat.zero_le _⟩ dX12_called_15 ?_
    clear hP hD hS; intro H locs hP hD hS
    refine lv_if_ne (pc := 18) (tgt := 27) hx hb dX12_called_18 (by decide) (fun c_18 => ?_) (fun c_18 => ?_)
    · replace hf := it_f c_18 hf
      refine lv_iload_n (pc := 27) hx hb dX12_called_27 rfl (lv_at hl 3 rfl) ?_
      refine lv_iconst (pc := 28) (v := 0) hx hb dX12_called_28 (by decide) ?_
      refine lv_aload_n (pc := 29) hx hb dX12_called_29 rfl (lv_at hl 0 rfl) ?_
      refine r_get (pc := 30) C hP 0 rfl fl_X12_358 rfl dX12_called_30 ?_
      refine r_get (pc := 33) C hP 1 rfl fl_X12_241 rfl dX12_called_33 ?_
      obtain ⟨r_36, hc_36, hf⟩ := bd1 hf
      refine r_dalSi (pc := 36) (Cn := "") (h := 0) (ws' := (wX12_called E h h_inn h_tape h_far h_from h_real h_other h_kept h_set h_book h_noteSort h_whose h_what h_noteIs h_fitting h_dawn h_likes h_walked h_came h_inn_creak h_inn_doorA h_inn_doorB h_inn_how h_inn_lies h_inn_isCold h_inn_falls h_inn_isFull h_inn_isTold h_inn_act h_inn_what h_inn_then h_inn_met h_inn_bed h_inn_dream h_inn_listens h_inn_name h_inn_nameSort h_inn_nameNumber 0 v_trouble v_where v_read v_taped v_size v_at v_sort v_place v_sign v_number v_fault v_wrongAt v_word v_marks v_notes v_inn_minutes v_inn_rooms v_inn_doors v_inn_things v_inn_dreams v_inn_sleepers v_inn_listeners v_inn_names v_other v_inn_how v_inn_lies v_inn_isFull v_inn_bed v_inn_isTold v_inn_act v_inn_then v_inn_what v_inn_doorA v_inn_doorB v_from v_inn_falls v_inn_creak v_inn_listens v_far v_inn_isCold v_inn_met v_set)) (As := [.int p2, .int 0, .int v_inn_minutes]) (rest := []) C (ctX12_in l E N p2 0 v_inn_minutes r_36 hc_36) ml_X12_149 ⟨Nat.le_of_ble_eq_true rfl, Nat.le_of_ble_eq_true rfl⟩ hP hD hS [] [0, 1, 2, 3, 4, 5, 6, 7, 8, 9, 10, 11, 12, 13, 14, 15, 16, 17, 18, 19, 20] 21 rfl rfl rfl rfl rfl rfl rfl hl.1 rfl (Nat.le_of_ble_eq_true rfl) ⟨Nat.zero_le _, Nat.zero_le _⟩ dX12_called_36 ?_
      clear hP hD hS; intro H locs hP hD hS
      refine lv_if_ne (pc := 39) (tgt := 48) hx hb dX12_called_39 (by decide) (fun c_39 => ?_) (fun c_39 => ?_)
      · replace hf := it_f c_39 hf
        refine lv_aload_n (pc := 48) hx hb dX12_called_48 rfl (lv_at hl 0 rfl) ?_
        refine lv_aload_n (pc := 49) hx hb dX12_called_49 rfl (lv_at hl 0 rfl) ?_
        refine r_get (pc := 50) C hP 0 rfl fl_X12_27 rfl dX12_called_50 ?_
        refine r_put (pc := 53) (ws' := [(h, .inr (11, [.int 0, .int v_trouble, .int v_where, .ref h_inn, va_rf v_read, .ref h_tape, .int v_taped, .int v_size, .int v_at, .int v_sort, .int v_place, .int v_sign, .int v_number, .int v_fault, .int v_wrongAt, .long v_word, .ref h_far, .ref h_from, .ref h_real, .ref h_other, .ref h_kept, .ref h_set, .ref h_other, .int v_marks, .int v_notes, .ref h_book, .ref h_noteSort, .ref h_whose, .ref h_what, .ref h_noteIs, .ref h_fitting, .ref h_dawn, .ref h_likes, .ref h_walked, .ref h_came])), (h_inn, .inr (10, [.int v_inn_minutes, .int v_inn_rooms, .int v_inn_doors, .int v_inn_things, .int v_inn_dreams, .int v_inn_sleepers, .int v_inn_listeners, .int v_inn_names, .ref h_inn_creak, .ref h_inn_doorA, .ref h_inn_doorB, .ref h_inn_how, .ref h_inn_lies, .ref h_inn_isCold, .ref h_inn_falls, .ref h_inn_isFull, .ref h_inn_isTold, .ref h_inn_act, .ref h_inn_what, .ref h_inn_then, .ref h_inn_met, .ref h_inn_bed, .ref h_inn_dream, .ref h_inn_listens, .ref h_inn_name, .ref h_inn_nameSort, .ref h_inn_nameNumber])), (h_other, aI E 51 v_other), (h_inn_how, aI E 10 v_inn_how), (h_inn_lies, aI E 4 v_inn_lies), (h_inn_isFull, aZ E 4 v_inn_isFull), (h_inn_bed, aI E 3 v_inn_bed), (h_inn_isTold, aZ E 16 v_inn_isTold), (h_inn_act, aI E 16 v_inn_act), (h_inn_then, aI E 16 v_inn_then), (h_inn_what, aI E 16 v_inn_what), (h_inn_doorA, aI E 10 v_inn_doorA), (h_inn_doorB, aI E 10 v_inn_doorB), (h_from, aI E 8 v_from), (h_inn_falls, aZ E 10 v_inn_falls), (h_inn_creak, aI E 8 v_inn_creak), (h_inn_listens, aI E 3 v_inn_listens), (h_far, aI E 64 v_far), (h_inn_isCold, aZ E 8 v_inn_isCold), (h_inn_met, aI E 16 v_inn_met), (h_set, aI E 3 v_set)]) C hP hD hS 0 rfl fl_X12_36 rfl rfl (Nat.le_of_ble_eq_true rfl) rfl dX12_called_53 ?_
        clear hP hD hS; intro H locs hP hD hS
        refine lv_iconst (pc := 56) (v := 0) hx hb dX12_called_56 (by decide) ?_
        refine lv_istore (pc := 57) (lv' := [(4, .int 0), (0, .ref h), (1, .int p0), (2, .int p1), (3, .int p2)]) hx hb dX12_called_57 hl (by decide) rfl (fun ls hl => ?_)
        have key59 : ∀ (n : Nat) (x59_4 : Int32) (x59_other : Nat → Int32) , lp (BX12_called_59 v_inn_sleepers N p0 p2 v_inn_minutes v_inn_rooms v_inn_doors v_inn_things v_inn_listeners v_inn_how v_inn_lies v_inn_isFull v_inn_bed v_inn_isTold v_inn_act v_inn_then v_inn_what v_inn_doorA v_inn_doorB v_from v_inn_falls v_inn_creak v_inn_listens v_far v_inn_isCold v_inn_met p1 v_set) n (x59_4, x59_other) = some z → AT p l e (rmOf 7 160) s m args below meth c E A Q 0 0 5 [(0, .ref h), (1, .int p0), (2, .int p1), (3, .int p2), (4, .int x59_4)] [(h, .inr (11, [.int 0, .int v_trouble, .int v_where, .ref h_inn, va_rf v_read, .ref h_tape, .int v_taped, .int v_size, .int v_at, .int v_sort, .int v_place, .int v_sign, .int v_number, .int v_fault, .int v_wrongAt, .long v_word, .ref h_far, .ref h_from, .ref h_real, .ref h_other, .ref h_kept, .ref h_set, .ref h_other, .int v_marks, .int v_notes, .ref h_book, .ref h_noteSort, .ref h_whose, .ref h_what, .ref h_noteIs, .ref h_fitting, .ref h_dawn, .ref h_likes, .ref h_walked, .ref h_came])), (h_inn, .inr (10, [.int v_inn_minutes, .int v_inn_rooms, .int v_inn_doors, .int v_inn_things, .int v_inn_dreams, .int v_inn_sleepers, .int v_inn_listeners, .int v_inn_names, .ref h_inn_creak, .ref h_inn_doorA, .ref h_inn_doorB, .ref h_inn_how, .ref h_inn_lies, .ref h_inn_isCold, .ref h_inn_falls, .ref h_inn_isFull, .ref h_inn_isTold, .ref h_inn_act, .ref h_inn_what, .ref h_inn_then, .ref h_inn_met, .ref h_inn_bed, .ref h_inn_dream, .ref h_inn_listens, .ref h_inn_name, .ref h_inn_nameSort, .ref h_inn_nameNumber])), (h_other, aI E 51 x59_other), (h_inn_how, aI E 10 v_inn_how), (h_inn_lies, aI E 4 v_inn_lies), (h_inn_isFull, aZ E 4 v_inn_isFull), (h_inn_bed, aI E 3 v_inn_bed), (h_inn_isTold, aZ E 16 v_inn_isTold), (h_inn_act, aI E 16 v_inn_act), (h_inn_then, aI E 16 v_inn_then), (h_inn_what, aI E 16 v_inn_what), (h_inn_doorA, aI E 10 v_inn_doorA), (h_inn_doorB, aI E 10 v_inn_doorB), (h_from, aI E 8 v_from), (h_inn_falls, aZ E 10 v_inn_falls), (h_inn_creak, aI E 8 v_inn_creak), (h_inn_listens, aI E 3 v_inn_listens), (h_far, aI E 64 v_far), (h_inn_isCold, aZ E 8 v_inn_isCold), (h_inn_met, aI E 16 v_inn_met), (h_set, aI E 3 v_set)] 59 [] := by
          intro n
          induction n with
          | zero => intro x59_4 x59_other hf; exact (lp_0 hf).elim
          | succ n ih59 =>
            intro x59_4 x59_other hf H locs ls hl hP hD hS
            replace hf := lp_s hf
            generalize lp (BX12_called_59 v_inn_sleepers N p0 p2 v_inn_minutes v_inn_rooms v_inn_doors v_inn_things v_inn_listeners v_inn_how v_inn_lies v_inn_isFull v_inn_bed v_inn_isTold v_inn_act v_inn_then v_inn_what v_inn_doorA v_inn_doorB v_from v_inn_falls v_inn_creak v_inn_listens v_far v_inn_isCold v_inn_met p1 v_set) n = rec59 at ih59 hf
            unfold BX12_called_59 at hf
            replace hf := un2_s hf
            refine lv_iload (pc := 59) hx hb dX12_called_59 (lv_at hl 4 rfl) ?_
            refine lv_aload_n (pc := 61) hx hb dX12_called_61 rfl (lv_at hl 0 rfl) ?_
            refine r_get (pc := 62) C hP 0 rfl fl_X12_358 rfl dX12_called_62 ?_
            refine r_get (pc := 65) C hP 1 rfl fl_X12_247 rfl dX12_called_65 ?_
            refine lv_icmp_ge (pc := 68) (tgt := 94) hx hb dX12_called_68 (by decide) (fun c_68 => ?_) (fun c_68 => ?_)
            · replace hf := it_t c_68 hf
              refine lv_aload_n (pc := 94) hx hb dX12_called_94 rfl (lv_at hl 0 rfl) ?_
              refine lv_iload_n (pc := 95) hx hb dX12_called_95 rfl (lv_at hl 1 rfl) ?_
              refine lv_iload_n (pc := 96) hx hb dX12_called_96 rfl (lv_at hl 3 rfl) ?_
              obtain ⟨v_other_97, v_from_97, hc_97, hf⟩ := bd2 hf
              refine r_dalVv (pc := 97) (ws' := [(h, .inr (11, [.int 0, .int v_trouble, .int v_where, .ref h_inn, va_rf v_read, .ref h_tape, .int v_taped, .int v_size, .int v_at, .int v_sort, .int v_place, .int v_sign, .int v_number, .int v_fault, .int v_wrongAt, .long v_word, .ref h_far, .ref h_from, .ref h_real, .ref h_other, .ref h_kept, .ref h_set, .ref h_other, .int v_marks, .int v_notes, .ref h_book, .ref h_noteSort, .ref h_whose, .ref h_what, .ref h_noteIs, .ref h_fitting, .ref h_dawn, .ref h_likes, .ref h_walked, .ref h_came])), (h_inn, .inr (10, [.int v_inn_minutes, .int v_inn_rooms, .int v_inn_doors, .int v_inn_things, .int v_inn_dreams, .int v_inn_sleepers, .int v_inn_listeners, .int v_inn_names, .ref h_inn_creak, .ref h_inn_doorA, .ref h_inn_doorB, .ref h_inn_how, .ref h_inn_lies, .ref h_inn_isCold, .ref h_inn_falls, .ref h_inn_isFull, .ref h_inn_isTold, .ref h_inn_act, .ref h_inn_what, .ref h_inn_then, .ref h_inn_met, .ref h_inn_bed, .ref h_inn_dream, .ref h_inn_listens, .ref h_inn_name, .ref h_inn_nameSort, .ref h_inn_nameNumber])), (h_other, aI E 51 v_other_97), (h_inn_how, aI E 10 v_inn_how), (h_inn_lies, aI E 4 v_inn_lies), (h_inn_isFull, aZ E 4 v_inn_isFull), (h_inn_bed, aI E 3 v_inn_bed), (h_inn_isTold, aZ E 16 v_inn_isTold), (h_inn_act, aI E 16 v_inn_act), (h_inn_then, aI E 16 v_inn_then), (h_inn_what, aI E 16 v_inn_what), (h_inn_doorA, aI E 10 v_inn_doorA), (h_inn_doorB, aI E 10 v_inn_doorB), (h_from, aI E 8 v_from_97), (h_inn_falls, aZ E 10 v_inn_falls), (h_inn_creak, aI E 8 v_inn_creak), (h_inn_listens, aI E 3 v_inn_listens), (h_far, aI E 64 v_far), (h_inn_isCold, aZ E 8 v_inn_isCold), (h_inn_met, aI E 16 v_inn_met), (h_set, aI E 3 v_set)]) (As := [.int p0, .int p2]) (rest := []) C (ctX12_plays l E h h_inn h_tape h_far h_from h_real h_other h_kept h_set h_other h_book h_noteSort h_whose h_what h_noteIs h_fitting h_dawn h_likes h_walked h_came h_inn_creak h_inn_doorA h_inn_doorB h_inn_how h_inn_lies h_inn_isCold h_inn_falls h_inn_isFull h_inn_isTold h_inn_act h_inn_what h_inn_then h_inn_met h_inn_bed h_inn_dream h_inn_listens h_inn_name h_inn_nameSort h_inn_nameNumber 0 v_trouble v_where v_read v_taped v_size v_at v_sort v_place v_sign v_number v_fault v_wrongAt v_word v_marks v_notes v_inn_minutes v_inn_rooms v_inn_doors v_inn_things v_inn_dreams v_inn_sleepers v_inn_listeners v_inn_names x59_other v_inn_how v_inn_lies v_inn_isFull v_inn_bed v_inn_isTold v_inn_act v_inn_then v_inn_what v_inn_doorA v_inn_doorB v_from v_inn_falls v_inn_creak v_inn_listens v_far v_inn_isCold v_inn_met N p0 p2 (v_other_97, v_from_97) hc_97) ml_X12_442 ⟨Nat.le_of_ble_eq_true rfl, Nat.le_of_ble_eq_true rfl⟩ hP hD hS 0 rfl rfl rfl [0, 1, 2, 3, 4, 5, 6, 7, 8, 9, 10, 11, 12, 13, 14, 15, 16, 17, 18, 19] [21, 22, 23, 24, 25, 26, 27, 28, 29, 30, 31, 32, 33, 34, 35, 36, 37, 38, 39, 40, 20] 21 rfl rfl rfl rfl rfl rfl rfl hl.1 rfl (Nat.le_of_ble_eq_true rfl) ⟨Nat.zero_le _, Nat.zero_le _⟩ dX12_called_97 ?_
              clear hP hD hS; intro H locs hP hD hS
              refine lv_aload_n (pc := 100) hx hb dX12_called_100 rfl (lv_at hl 0 rfl) ?_
              refine r_get (pc := 101) C hP 0 rfl fl_X12_36 rfl dX12_called_101 ?_
              refine lv_iconst (pc := 104) (v := 0) hx hb dX12_called_104 (by decide) ?_
              refine lv_iload_n (pc := 105) hx hb dX12_called_105 rfl (lv_at hl 2 rfl) ?_
              refine lv_iadd (pc := 106) hx hb dX12_called_106 ?_
              obtain ⟨hi_107, hf⟩ := gd_s hf
              refine r_iald (pc := 107) C hP 2 rfl hi_107 dX12_called_107 ?_
              refine lv_istore (pc := 108) (lv' := [(4, .int (v_other_97 (0 + p1).toNatClampNeg)), (0, .ref h), (1, .int p0), (2, .int p1), (3, .int p2)]) hx hb dX12_called_108 hl (by decide) rfl (fun ls hl => ?_)
              refine lv_aload_n (pc := 110) hx hb dX12_called_110 rfl (lv_at hl 1 rfl) ?_
              refine lv_aload_n (pc := 111) hx hb dX12_called_111 rfl (lv_at hl 1 rfl) ?_
              refine r_get (pc := 112) C hP 0 rfl fl_X12_24 rfl dX12_called_112 ?_
              refine r_put (pc := 115) (ws' := (wX12_called E h h_inn h_tape h_far h_from h_real h_other h_kept h_set h_book h_noteSort h_whose h_what h_noteIs h_fitting h_dawn h_likes h_walked h_came h_inn_creak h_inn_doorA h_inn_doorB h_inn_how h_inn_lies h_inn_isCold h_inn_falls h_inn_isFull h_inn_isTold h_inn_act h_inn_what h_inn_then h_inn_met h_inn_bed h_inn_dream h_inn_listens h_inn_name h_inn_nameSort h_inn_nameNumber 0 v_trouble v_where v_read v_taped v_size v_at v_sort v_place v_sign v_number v_fault v_wrongAt v_word v_marks v_notes v_inn_minutes v_inn_rooms v_inn_doors v_inn_things v_inn_dreams v_inn_sleepers v_inn_listeners v_inn_names v_other_97 v_inn_how v_inn_lies v_inn_isFull v_inn_bed v_inn_isTold v_inn_act v_inn_then v_inn_what v_inn_doorA v_inn_doorB v_from_97 v_inn_falls v_inn_creak v_inn_listens v_far v_inn_isCold v_inn_met v_set)) C hP hD hS 0 rfl fl_X12_36 rfl rfl (Nat.le_of_ble_eq_true rfl) rfl dX12_called_115 ?_
              clear hP hD hS; intro H locs hP hD hS
              refine lv_aload_n (pc := 118) hx hb dX12_called_118 rfl (lv_at hl 1 rfl) ?_
              refine lv_iload (pc := 119) hx hb dX12_called_119 (lv_at hl 0 rfl) ?_
              obtain ⟨r_121, v_trouble_121, v_where_121, hc_121, hf⟩ := bd3 hf
              refine r_dalVi (pc := 121) (ws' := (wX12_called E h h_inn h_tape h_far h_from h_real h_other h_kept h_set h_book h_noteSort h_whose h_what h_noteIs h_fitting h_dawn h_likes h_walked h_came h_inn_creak h_inn_doorA h_inn_doorB h_inn_how h_inn_lies h_inn_isCold h_inn_falls h_inn_isFull h_inn_isTold h_inn_act h_inn_what h_inn_then h_inn_met h_inn_bed h_inn_dream h_inn_listens h_inn_name h_inn_nameSort h_inn_nameNumber 0 v_trouble_121 v_where_121 v_read v_taped v_size v_at v_sort v_place v_sign v_number v_fault v_wrongAt v_word v_marks v_notes v_inn_minutes v_inn_rooms v_inn_doors v_inn_things v_inn_dreams v_inn_sleepers v_inn_listeners v_inn_names v_other_97 v_inn_how v_inn_lies v_inn_isFull v_inn_bed v_inn_isTold v_inn_act v_inn_then v_inn_what v_inn_doorA v_inn_doorB v_from_97 v_inn_falls v_inn_creak v_inn_listens v_far v_inn_isCold v_inn_met v_set)) (As := [.int (v_other_97 (0 + p1).toNatClampNeg)]) (rest := []) C (ctX12_good l E h h_tape h_far h_from h_real h_other h_kept h_set h_real h_book h_noteSort h_whose h_what h_noteIs h_fitting h_dawn h_likes h_walked h_came 0 v_trouble v_where (some h_inn) v_read v_taped v_size v_at v_sort v_place v_sign v_number v_fault v_wrongAt v_word v_marks v_notes N (v_other_97 (0 + p1).toNatClampNeg) (r_121, v_trouble_121, v_where_121) hc_121) ml_X12_81 ⟨Nat.le_of_ble_eq_true rfl, Nat.le_of_ble_eq_true rfl⟩ hP hD hS 0 rfl rfl rfl [0] [21, 1, 2, 3, 4, 5, 6, 7, 8, 9, 10, 11, 12, 13, 14, 15, 16, 17, 18, 19, 20] 21 rfl rfl rfl rfl rfl rfl rfl hl.1 rfl (Nat.le_of_ble_eq_true rfl) ⟨Nat.zero_le _, Nat.zero_le _⟩ dX12_called_121 ?_
              clear hP hD hS; intro H locs hP hD hS
              cases hf
              rw [hQ]
              exact r_iret C hr hP hD hS rfl dX12_called_124
            · replace hf := it_f c_68 hf
              refine lv_aload_n (pc := 71) hx hb dX12_called_71 rfl (lv_at hl 0 rfl) ?_
              refine r_get (pc := 72) C hP 0 rfl fl_X12_36 rfl dX12_called_72 ?_
              refine lv_bipush (pc := 75) (v := 12) hx hb dX12_called_75 (by decide) ?_
              refine lv_iload (pc := 77) hx hb dX12_called_77 (lv_at hl 4 rfl) ?_
              refine lv_iadd (pc := 79) hx hb dX12_called_79 ?_
              refine lv_aload_n (pc := 80) hx hb dX12_called_80 rfl (lv_at hl 0 rfl) ?_
              refine r_get (pc := 81) C hP 0 rfl fl_X12_33 rfl dX12_called_81 ?_
              refine lv_iload (pc := 84) hx hb dX12_called_84 (lv_at hl 4 rfl) ?_
              obtain ⟨hi_86, hf⟩ := gd_s hf
              refine r_iald (pc := 86) C hP 20 rfl hi_86 dX12_called_86 ?_
              obtain ⟨hi_87, hf⟩ := gd_s hf
              refine r_iast (pc := 87) (ws' := [(h, .inr (11, [.int 0, .int v_trouble, .int v_where, .ref h_inn, va_rf v_read, .ref h_tape, .int v_taped, .int v_size, .int v_at, .int v_sort, .int v_place, .int v_sign, .int v_number, .int v_fault, .int v_wrongAt, .long v_word, .ref h_far, .ref h_from, .ref h_real, .ref h_other, .ref h_kept, .ref h_set, .ref h_other, .int v_marks, .int v_notes, .ref h_book, .ref h_noteSort, .ref h_whose, .ref h_what, .ref h_noteIs, .ref h_fitting, .ref h_dawn, .ref h_likes, .ref h_walked, .ref h_came])), (h_inn, .inr (10, [.int v_inn_minutes, .int v_inn_rooms, .int v_inn_doors, .int v_inn_things, .int v_inn_dreams, .int v_inn_sleepers, .int v_inn_listeners, .int v_inn_names, .ref h_inn_creak, .ref h_inn_doorA, .ref h_inn_doorB, .ref h_inn_how, .ref h_inn_lies, .ref h_inn_isCold, .ref h_inn_falls, .ref h_inn_isFull, .ref h_inn_isTold, .ref h_inn_act, .ref h_inn_what, .ref h_inn_then, .ref h_inn_met, .ref h_inn_bed, .ref h_inn_dream, .ref h_inn_listens, .ref h_inn_name, .ref h_inn_nameSort, .ref h_inn_nameNumber])), (h_other, aI E 51 (upd x59_other (12 + x59_4).toNatClampNeg (v_set x59_4.toNatClampNeg))), (h_inn_how, aI E 10 v_inn_how), (h_inn_lies, aI E 4 v_inn_lies), (h_inn_isFull, aZ E 4 v_inn_isFull), (h_inn_bed, aI E 3 v_inn_bed), (h_inn_isTold, aZ E 16 v_inn_isTold), (h_inn_act, aI E 16 v_inn_act), (h_inn_then, aI E 16 v_inn_then), (h_inn_what, aI E 16 v_inn_what), (h_inn_doorA, aI E 10 v_inn_doorA), (h_inn_doorB, aI E 10 v_inn_doorB), (h_from, aI E 8 v_from), (h_inn_falls, aZ E 10 v_inn_falls), (h_inn_creak, aI E 8 v_inn_creak), (h_inn_listens, aI E 3 v_inn_listens), (h_far, aI E 64 v_far), (h_inn_isCold, aZ E 8 v_inn_isCold), (h_inn_met, aI E 16 v_inn_met), (h_set, aI E 3 v_set)]) C hP hD hS 2 rfl hi_87 rfl dX12_called_87 ?_
              clear hP hD hS; intro H locs hP hD hS
              refine lv_iinc (pc := 88) (v := x59_4 + 1) (lv' := [(4, .int (x59_4 + 1)), (0, .ref h), (1, .int p0), (2, .int p1), (3, .int p2)]) hx hb dX12_called_88 hl (k := 4) rfl rfl (by decide) rfl (fun ls hl => ?_)
              refine lv_goto (pc := 91) (tgt := 59) hx hb dX12_called_91 (by decide) ?_
              exact ih59 (x59_4 + 1) (upd x59_other (12 + x59_4).toNatClampNeg (v_set x59_4.toNatClampNeg)) hf _ _ _ (lv_sub hl [1, 2, 3, 4, 0] rfl) hP hD hS
        exact key59 _ 0 v_other hf _ _ _ (lv_sub hl [1, 2, 3, 4, 0] rfl) hP hD hS
      · replace hf := it_t c_39 hf
        refine lv_aload_n (pc := 42) hx hb dX12_called_42 rfl (lv_at hl 0 rfl) ?_
        refine lv_iconst (pc := 43) (v := 2) hx hb dX12_called_43 (by decide) ?_
        obtain ⟨r_44, v_trouble_44, v_where_44, hc_44, hf⟩ := bd3 hf
        refine r_dalVi (pc := 44) (ws' := (wX12_called E h h_inn h_tape h_far h_from h_real h_other h_kept h_set h_book h_noteSort h_whose h_what h_noteIs h_fitting h_dawn h_likes h_walked h_came h_inn_creak h_inn_doorA h_inn_doorB h_inn_how h_inn_lies h_inn_isCold h_inn_falls h_inn_isFull h_inn_isTold h_inn_act h_inn_what h_inn_then h_inn_met h_inn_bed h_inn_dream h_inn_listens h_inn_name h_inn_nameSort h_inn_nameNumber 0 v_trouble_44 v_where_44 v_read v_taped v_size v_at v_sort v_place v_sign v_number v_fault v_wrongAt v_word v_marks v_notes v_inn_minutes v_inn_rooms v_inn_doors v_inn_things v_inn_dreams v_inn_sleepers v_inn_listeners v_inn_names v_other v_inn_how v_inn_lies v_inn_isFull v_inn_bed v_inn_isTold v_inn_act v_inn_then v_inn_what v_inn_doorA v_inn_doorB v_from v_inn_falls v_inn_creak v_inn_listens v_far v_inn_isCold v_inn_met v_set)) (As := [.int 2]) (rest := []) C (ctX12_refused l E h h_tape h_far h_from h_real h_other h_kept h_set h_real h_book h_noteSort h_whose h_what h_noteIs h_fitting h_dawn h_likes h_walked h_came 0 v_trouble v_where (some h_inn) v_read v_taped v_size v_at v_sort v_place v_sign v_number v_fault v_wrongAt v_word v_marks v_notes N 2 (r_44, v_trouble_44, v_where_44) hc_44) ml_X12_77 ⟨Nat.le_of_ble_eq_true rfl, Nat.le_of_ble_eq_true rfl⟩ hP hD hS 0 rfl rfl rfl [0] [21, 1, 2, 3, 4, 5, 6, 7, 8, 9, 10, 11, 12, 13, 14, 15, 16, 17, 18, 19, 20] 21 rfl rfl rfl rfl rfl rfl rfl hl.1 rfl (Nat.le_of_ble_eq_true rfl) ⟨Nat.zero_le _, Nat.zero_le _⟩ dX12_called_44 ?_
        clear hP hD hS; intro H locs hP hD hS
        cases hf
        rw [hQ]
        exact r_iret C hr hP hD hS rfl dX12_called_47
    · replace hf := it_t c_18 hf
      refine lv_aload_n (pc := 21) hx hb dX12_called_21 rfl (lv_at hl 0 rfl) ?_
      refine lv_iconst (pc := 22) (v := 1) hx hb dX12_called_22 (by decide) ?_
      obtain ⟨r_23, v_trouble_23, v_where_23, hc_23, hf⟩ := bd3 hf
      refine r_dalVi (pc := 23) (ws' := (wX12_called E h h_inn h_tape h_far h_from h_real h_other h_kept h_set h_book h_noteSort h_whose h_what h_noteIs h_fitting h_dawn h_likes h_walked h_came h_inn_creak h_inn_doorA h_inn_doorB h_inn_how h_inn_lies h_inn_isCold h_inn_falls h_inn_isFull h_inn_isTold h_inn_act h_inn_what h_inn_then h_inn_met h_inn_bed h_inn_dream h_inn_listens h_inn_name h_inn_nameSort h_inn_nameNumber 0 v_trouble_23 v_where_23 v_read v_taped v_size v_at v_sort v_place v_sign v_number v_fault v_wrongAt v_word v_marks v_notes v_inn_minutes v_inn_rooms v_inn_doors v_inn_things v_inn_dreams v_inn_sleepers v_inn_listeners v_inn_names v_other v_inn_how v_inn_lies v_inn_isFull v_inn_bed v_inn_isTold v_inn_act v_inn_then v_inn_what v_inn_doorA v_inn_doorB v_from v_inn_falls v_inn_creak v_inn_listens v_far v_inn_isCold v_inn_met v_set)) (As := [.int 1]) (rest := []) C (ctX12_refused l E h h_tape h_far h_from h_real h_other h_kept h_set h_real h_book h_noteSort h_whose h_what h_noteIs h_fitting h_dawn h_likes h_walked h_came 0 v_trouble v_where (some h_inn) v_read v_taped v_size v_at v_sort v_place v_sign v_number v_fault v_wrongAt v_word v_marks v_notes N 1 (r_23, v_trouble_23, v_where_23) hc_23) ml_X12_77 ⟨Nat.le_of_ble_eq_true rfl, Nat.le_of_ble_eq_true rfl⟩ hP hD hS 0 rfl rfl rfl [0] [21, 1, 2, 3, 4, 5, 6, 7, 8, 9, 10, 11, 12, 13, 14, 15, 16, 17, 18, 19, 20] 21 rfl rfl rfl rfl rfl rfl rfl hl.1 rfl (Nat.le_of_ble_eq_true rfl) ⟨Nat.zero_le _, Nat.zero_le _⟩ dX12_called_23 ?_
      clear hP hD hS; intro H locs hP hD hS
      cases hf
      rw [hQ]
      exact r_iret C hr hP hD hS rfl dX12_called_26
def wX12_called0 (E : EN) (h h_tape h_far h_from h_real h_other h_kept h_set h_book h_noteSort h_whose h_what h_noteIs h_fitting h_dawn h_likes h_walked h_came : Nat) (v_thrown : Int32) (v_trouble : Int32) (v_where : Int32) (v_read : Option Nat) (v_taped : Int32) (v_size : Int32) (v_at : Int32) (v_sort : Int32) (v_place : Int32) (v_sign : Int32) (v_number : Int32) (v_fault : Int32) (v_wrongAt : Int32) (v_word : Int64) (v_marks : Int32) (v_notes : Int32) : va_W := [(h, .inr (11, [.int v_thrown, .int v_trouble, .int v_where, .null, va_rf v_read, .ref h_tape, .int v_taped, .int v_size, .int v_at, .int v_sort, .int v_place, .int v_sign, .int v_number, .int v_fault, .int v_wrongAt, .long v_word, .ref h_far, .ref h_from, .ref h_real, .ref h_other, .ref h_kept, .ref h_set, .ref h_real, .int v_marks, .int v_notes, .ref h_book, .ref h_noteSort, .ref h_whose, .ref h_what, .ref h_noteIs, .ref h_fitting, .ref h_dawn, .ref h_likes, .ref h_walked, .ref h_came]))]
def fX12_called0 (N : Nat) : Option (Int32 × Int32 × Int32 × Int32) := (fX12_isSetting0 N).bind (un1 fun (r_7 : Int32) => if r_7 = 0 then ((fX12_refused N 1).bind (un3 fun (r_23 : Int32) (v_trouble_23 : Int32) (v_where_23 : Int32) => some (r_23, 0, v_trouble_23, v_where_23))) else ((fX12_isSleeper0 N).bind (un1 fun (r_15 : Int32) => if r_15 = 0 then ((fX12_refused N 1).bind (un3 fun (r_23 : Int32) (v_trouble_23 : Int32) (v_where_23 : Int32) => some (r_23, 0, v_trouble_23, v_where_23))) else (none))))
set_option maxHeartbeats 4000000 in
set_option maxRecDepth 100000 in
theorem ctX12_called0 (l : Launch) (E : EN) (h h_tape h_far h_from h_real h_other h_kept h_set h_book h_noteSort h_whose h_what h_noteIs h_fitting h_dawn h_likes h_walked h_came : Nat) (v_thrown : Int32) (v_trouble : Int32) (v_where : Int32) (v_read : Option Nat) (v_taped : Int32) (v_size : Int32) (v_at : Int32) (v_sort : Int32) (v_place : Int32) (v_sign : Int32) (v_number : Int32) (v_fault : Int32) (v_wrongAt : Int32) (v_word : Int64) (v_marks : Int32) (v_notes : Int32) (N : Nat) (p0 : Int32) (p1 : Int32) (p2 : Int32) (z : Int32 × Int32 × Int32 × Int32) (hf : fX12_called0 N  = some z) : CTi l E yX12_called cX12_called 5 .int 1 21 [.ref h, .int p0, .int p1, .int p2] (wX12_called0 E h h_tape h_far h_from h_real h_other h_kept h_set h_book h_noteSort h_whose h_what h_noteIs h_fitting h_dawn h_likes h_walked h_came v_thrown v_trouble v_where v_read v_taped v_size v_at v_sort v_place v_sign v_number v_fault v_wrongAt v_word v_marks v_notes) (z.1) (wX12_called0 E h h_tape h_far h_from h_real h_other h_kept h_set h_book h_noteSort h_whose h_what h_noteIs h_fitting h_dawn h_likes h_walked h_came z.2.1 z.2.2.1 z.2.2.2 v_read v_taped v_size v_at v_sort v_place v_sign v_number v_fault v_wrongAt v_word v_marks v_notes) := by
  intro sz
  refine ct_body (by decide) (Nat.le_of_ble_eq_true rfl) ?_
  intro p e s m args below meth c A ls hAe C hr hin hP hD hS hl
  have C : CX p s m args meth c cX12_called RX12 5 E A := C
  have hl : lv_has ls 5 [(0, .ref h), (1, .int p0), (2, .int p1), (3, .int p2)] := hl
  have hx := C.1
  have hb := C.2.1
  rw [hAe]
  clear hAe
  obtain ⟨Q, hQ⟩ : ∃ Q, Q = MQ below (Qi E A (z.1) (wX12_called0 E h h_tape h_far h_from h_real h_other h_kept h_set h_book h_noteSort h_whose h_what h_noteIs h_fitting h_dawn h_likes h_walked h_came z.2.1 z.2.2.1 z.2.2.2 v_read v_taped v_size v_at v_sort v_place v_sign v_number v_fault v_wrongAt v_word v_marks v_notes)) args s 0 0 A := ⟨_, rfl⟩
  rw [← hQ]
  unfold fX12_called0 at hf
  refine lv_aload_n (pc := 0) hx hb dX12_called_0 rfl (lv_at hl 0 rfl) ?_
  refine lv_iconst (pc := 1) (v := 0) hx hb dX12_called_1 (by decide) ?_
  refine r_put (pc := 2) (ws' := (wX12_called0 E h h_tape h_far h_from h_real h_other h_kept h_set h_book h_noteSort h_whose h_what h_noteIs h_fitting h_dawn h_likes h_walked h_came 0 v_trouble v_where v_read v_taped v_size v_at v_sort v_place v_sign v_number v_fault v_wrongAt v_word v_marks v_notes)) C hP hD hS 0 rfl fl_X12_71 rfl rfl (Nat.le_of_ble_eq_true rfl) rfl dX12_called_2 ?_
  clear hP hD hS; intro H locs hP hD hS
  refine lv_aload_n (pc := 5) hx hb dX12_called_5 rfl (lv_at hl 0 rfl) ?_
  refine lv_iload_n (pc := 6) hx hb dX12_called_6 rfl (lv_at hl 1 rfl) ?_
  obtain ⟨r_7, hc_7, hf⟩ := bd1 hf
  refine r_dalVi (pc := 7) (ws' := (wX12_called0 E h h_tape h_far h_from h_real h_other h_kept h_set h_book h_noteSort h_whose h_what h_noteIs h_fitting h_dawn h_likes h_walked h_came 0 v_trouble v_where v_read v_taped v_size v_at v_sort v_place v_sign v_number v_fault v_wrongAt v_word v_marks v_notes)) (As := [.int p0]) (rest := []) C (ctX12_isSetting0 l E h h_tape h_far h_from h_real h_other h_kept h_set h_real h_book h_noteSort h_whose h_what h_noteIs h_fitting h_dawn h_likes h_walked h_came 0 v_trouble v_where v_read v_taped v_size v_at v_sort v_place v_sign v_number v_fault v_wrongAt v_word v_marks v_notes N p0 r_7 hc_7) ml_X12_412 ⟨Nat.le_of_ble_eq_true rfl, Nat.le_of_ble_eq_true rfl⟩ hP hD hS 0 rfl rfl rfl [0] [1] 1 rfl rfl rfl rfl rfl rfl rfl hl.1 rfl (Nat.le_of_ble_eq_true rfl) ⟨Nat.zero_le _, Nat.zero_le _⟩ dX12_called_7 ?_
  clear hP hD hS; intro H locs hP hD hS
  refine lv_if_eq (pc := 10) (tgt := 21) hx hb dX12_called_10 (by decide) (fun c_10 => ?_) (fun c_10 => ?_)
  · replace hf := it_t c_10 hf
    refine lv_aload_n (pc := 21) hx hb dX12_called_21 rfl (lv_at hl 0 rfl) ?_
    refine lv_iconst (pc := 22) (v := 1) hx hb dX12_called_22 (by decide) ?_
    obtain ⟨r_23, v_trouble_23, v_where_23, hc_23, hf⟩ := bd3 hf
    refine r_dalVi (pc := 23) (ws' := (wX12_called0 E h h_tape h_far h_from h_real h_other h_kept h_set h_book h_noteSort h_whose h_what h_noteIs h_fitting h_dawn h_likes h_walked h_came 0 v_trouble_23 v_where_23 v_read v_taped v_size v_at v_sort v_place v_sign v_number v_fault v_wrongAt v_word v_marks v_notes)) (As := [.int 1]) (rest := []) C (ctX12_refused l E h h_tape h_far h_from h_real h_other h_kept h_set h_real h_book h_noteSort h_whose h_what h_noteIs h_fitting h_dawn h_likes h_walked h_came 0 v_trouble v_where none v_read v_taped v_size v_at v_sort v_place v_sign v_number v_fault v_wrongAt v_word v_marks v_notes N 1 (r_23, v_trouble_23, v_where_23) hc_23) ml_X12_77 ⟨Nat.le_of_ble_eq_true rfl, Nat.le_of_ble_eq_true rfl⟩ hP hD hS 0 rfl rfl rfl [0] [1] 1 rfl rfl rfl rfl rfl rfl rfl hl.1 rfl (Nat.le_of_ble_eq_true rfl) ⟨Nat.zero_le _, Nat.zero_le _⟩ dX12_called_23 ?_
    clear hP hD hS; intro H locs hP hD hS
    cases hf
    rw [hQ]
    exact r_iret C hr hP hD hS rfl dX12_called_26
  · replace hf := it_f c_10 hf
    refine lv_aload_n (pc := 13) hx hb dX12_called_13 rfl (lv_at hl 0 rfl) ?_
    refine lv_iload_n (pc := 14) hx hb dX12_called_14 rfl (lv_at hl 2 rfl) ?_
    obtain ⟨r_15, hc_15, hf⟩ := bd1 hf
    refine r_dalVi (pc := 15) (ws' := (wX12_called0 E h h_tape h_far h_from h_real h_other h_kept h_set h_book h_noteSort h_whose h_what h_noteIs h_fitting h_dawn h_likes h_walked h_came 0 v_trouble v_where v_read v_taped v_size v_at v_sort v_place v_sign v_number v_fault v_wrongAt v_word v_marks v_notes)) (As := [.int p1]) (rest := []) C (ctX12_isSleeper0 l E h h_tape h_far h_from h_real h_other h_kept h_set h_real h_book h_noteSort h_whose h_what h_noteIs h_fitting h_dawn h_likes h_walked h_came 0 v_trouble v_where v_read v_taped v_size v_at v_sort v_place v_sign v_number v_fault v_wrongAt v_word v_marks v_notes N p1 r_15 hc_15) ml_X12_421 ⟨Nat.le_of_ble_eq_true rfl, Nat.le_of_ble_eq_true rfl⟩ hP hD hS 0 rfl rfl rfl [0] [1] 1 rfl rfl rfl rfl rfl rfl rfl hl.1 rfl (Nat.le_of_ble_eq_true rfl) ⟨Nat.zero_le _, Nat.zero_le _⟩ dX12_called_15 ?_
    clear hP hD hS; intro H locs hP hD hS
    refine lv_if_ne (pc := 18) (tgt := 27) hx hb dX12_called_18 (by decide) (fun c_18 => ?_) (fun c_18 => ?_)
    · replace hf := it_f c_18 hf
      refine lv_iload_n (pc := 27) hx hb dX12_called_27 rfl (lv_at hl 3 rfl) ?_
      refine lv_iconst (pc := 28) (v := 0) hx hb dX12_called_28 (by decide) ?_
      refine lv_aload_n (pc := 29) hx hb dX12_called_29 rfl (lv_at hl 0 rfl) ?_
      refine r_get (pc := 30) C hP 0 rfl fl_X12_358 rfl dX12_called_30 ?_
      cases hf
    · replace hf := it_t c_18 hf
      refine lv_aload_n (pc := 21) hx hb dX12_called_21 rfl (lv_at hl 0 rfl) ?_
      refine lv_iconst (pc := 22) (v := 1) hx hb dX12_called_22 (by decide) ?_
      obtain ⟨r_23, v_trouble_23, v_where_23, hc_23, hf⟩ := bd3 hf
      refine r_dalVi (pc := 23) (ws' := (wX12_called0 E h h_tape h_far h_from h_real h_other h_kept h_set h_book h_noteSort h_whose h_what h_noteIs h_fitting h_dawn h_likes h_walked h_came 0 v_trouble_23 v_where_23 v_read v_taped v_size v_at v_sort v_place v_sign v_number v_fault v_wrongAt v_word v_marks v_notes)) (As := [.int 1]) (rest := []) C (ctX12_refused l E h h_tape h_far h_from h_real h_other h_kept h_set h_real h_book h_noteSort h_whose h_what h_noteIs h_fitting h_dawn h_likes h_walked h_came 0 v_trouble v_where none v_read v_taped v_size v_at v_sort v_place v_sign v_number v_fault v_wrongAt v_word v_marks v_notes N 1 (r_23, v_trouble_23, v_where_23) hc_23) ml_X12_77 ⟨Nat.le_of_ble_eq_true rfl, Nat.le_of_ble_eq_true rfl⟩ hP hD hS 0 rfl rfl rfl [0] [1] 1 rfl rfl rfl rfl rfl rfl rfl hl.1 rfl (Nat.le_of_ble_eq_true rfl) ⟨Nat.zero_le _, Nat.zero_le _⟩ dX12_called_23 ?_
      clear hP hD hS; intro H locs hP hD hS
      cases hf
      rw [hQ]
      exact r_iret C hr hP hD hS rfl dX12_called_26
def wX12_mark (E : EN) (h h_inn h_tape h_far h_from h_real h_other h_kept h_set h_w h_book h_noteSort h_whose h_what h_noteIs h_fitting h_dawn h_likes h_walked h_came : Nat) (v_thrown : Int32) (v_trouble : Int32) (v_where : Int32) (v_read : Option Nat) (v_taped : Int32) (v_size : Int32) (v_at : Int32) (v_sort : Int32) (v_place : Int32) (v_sign : Int32) (v_number : Int32) (v_fault : Int32) (v_wrongAt : Int32) (v_word : Int64) (v_marks : Int32) (v_notes : Int32) (v_w : Nat → Int32) (v_kept : Nat → Int32) : va_W := [(h, .inr (11, [.int v_thrown, .int v_trouble, .int v_where, .ref h_inn, va_rf v_read, .ref h_tape, .int v_taped, .int v_size, .int v_at, .int v_sort, .int v_place, .int v_sign, .int v_number, .int v_fault, .int v_wrongAt, .long v_word, .ref h_far, .ref h_from, .ref h_real, .ref h_other, .ref h_kept, .ref h_set, .ref h_w, .int v_marks, .int v_notes, .ref h_book, .ref h_noteSort, .ref h_whose, .ref h_what, .ref h_noteIs, .ref h_fitting, .ref h_dawn, .ref h_likes, .ref h_walked, .ref h_came])), (h_w, aI E 51 v_w), (h_kept, aI E 153 v_kept)]
def BX12_mark_34 (N : Nat) (v_marks : Int32) (v_w : Nat → Int32) (rec34 : (Int32 × (Nat → Int32)) → Option (Int32 × Int32 × Int32 × Int32 × Int32 × (Nat → Int32))) : (Int32 × (Nat → Int32)) → Option (Int32 × Int32 × Int32 × Int32 × Int32 × (Nat → Int32)) := un2 fun (x34_1 : Int32) (x34_kept : Nat → Int32) => if 51 ≤ x34_1 then ((fX12_good N ((v_marks + 1) - 1)).bind (un3 fun (r_83 : Int32) (v_trouble_83 : Int32) (v_where_83 : Int32) => some (r_83, 0, v_trouble_83, v_where_83, v_marks + 1, x34_kept))) else (gd x34_1 51 (gd ((51 * v_marks) + x34_1) 153 (rec34 (x34_1 + 1, upd x34_kept ((51 * v_marks) + x34_1).toNatClampNeg (v_w x34_1.toNatClampNeg)))))
def fX12_mark (N : Nat) (v_marks : Int32) (v_w : Nat → Int32) (v_kept : Nat → Int32) : Option (Int32 × Int32 × Int32 × Int32 × Int32 × (Nat → Int32)) := if v_marks = 3 then ((fX12_refused N 3).bind (un3 fun (r_28 : Int32) (v_trouble_28 : Int32) (v_where_28 : Int32) => some (r_28, 0, v_trouble_28, v_where_28, v_marks, v_kept))) else (lp (BX12_mark_34 N v_marks v_w) N (0, v_kept))
set_option maxHeartbeats 4000000 in
set_option maxRecDepth 100000 in
theorem ctX12_mark (l : Launch) (E : EN) (h h_inn h_tape h_far h_from h_real h_other h_kept h_set h_w h_book h_noteSort h_whose h_what h_noteIs h_fitting h_dawn h_likes h_walked h_came : Nat) (v_thrown : Int32) (v_trouble : Int32) (v_where : Int32) (v_read : Option Nat) (v_taped : Int32) (v_size : Int32) (v_at : Int32) (v_sort : Int32) (v_place : Int32) (v_sign : Int32) (v_number : Int32) (v_fault : Int32) (v_wrongAt : Int32) (v_word : Int64) (v_marks : Int32) (v_notes : Int32) (v_w : Nat → Int32) (v_kept : Nat → Int32) (N : Nat) (z : Int32 × Int32 × Int32 × Int32 × Int32 × (Nat → Int32)) (hf : fX12_mark N v_marks v_w v_kept = some z) : CTi l E yX12_mark cX12_mark 2 .int 1 21 [.ref h] (wX12_mark E h h_inn h_tape h_far h_from h_real h_other h_kept h_set h_w h_book h_noteSort h_whose h_what h_noteIs h_fitting h_dawn h_likes h_walked h_came v_thrown v_trouble v_where v_read v_taped v_size v_at v_sort v_place v_sign v_number v_fault v_wrongAt v_word v_marks v_notes v_w v_kept) (z.1) (wX12_mark E h h_inn h_tape h_far h_from h_real h_other h_kept h_set h_w h_book h_noteSort h_whose h_what h_noteIs h_fitting h_dawn h_likes h_walked h_came z.2.1 z.2.2.1 z.2.2.2.1 v_read v_taped v_size v_at v_sort v_place v_sign v_number v_fault v_wrongAt v_word z.2.2.2.2.1 v_notes v_w z.2.2.2.2.2) := by
  intro sz
  refine ct_body (by decide) (Nat.le_of_ble_eq_true rfl) ?_
  intro p e s m args below meth c A ls hAe C hr hin hP hD hS hl
  have C : CX p s m args meth c cX12_mark RX12 2 E A := C
  have hl : lv_has ls 2 [(0, .ref h)] := hl
  have hx := C.1
  have hb := C.2.1
  rw [hAe]
  clear hAe
  obtain ⟨Q, hQ⟩ : ∃ Q, Q = MQ below (Qi E A (z.1) (wX12_mark E h h_inn h_tape h_far h_from h_real h_other h_kept h_set h_w h_book h_noteSort h_whose h_what h_noteIs h_fitting h_dawn h_likes h_walked h_came z.2.1 z.2.2.1 z.2.2.2.1 v_read v_taped v_size v_at v_sort v_place v_sign v_number v_fault v_wrongAt v_word z.2.2.2.2.1 v_notes v_w z.2.2.2.2.2)) args s 0 0 A := ⟨_, rfl⟩
  rw [← hQ]
  unfold fX12_mark at hf
  refine lv_aload_n (pc := 0) hx hb dX12_mark_0 rfl (lv_at hl 0 rfl) ?_
  refine lv_iconst (pc := 1) (v := 0) hx hb dX12_mark_1 (by decide) ?_
  refine r_put (pc := 2) (ws' := (wX12_mark E h h_inn h_tape h_far h_from h_real h_other h_kept h_set h_w h_book h_noteSort h_whose h_what h_noteIs h_fitting h_dawn h_likes h_walked h_came 0 v_trouble v_where v_read v_taped v_size v_at v_sort v_place v_sign v_number v_fault v_wrongAt v_word v_marks v_notes v_w v_kept)) C hP hD hS 0 rfl fl_X12_71 rfl rfl (Nat.le_of_ble_eq_true rfl) rfl dX12_mark_2 ?_
  clear hP hD hS; intro H locs hP hD hS
  refine lv_aload_n (pc := 5) hx hb dX12_mark_5 rfl (lv_at hl 0 rfl) ?_
  refine r_get (pc := 6) C hP 0 rfl fl_X12_358 rfl dX12_mark_6 ?_
  refine lv_ifnonnull (pc := 9) (tgt := 18) hx hb dX12_mark_9 (by decide) ?_
  refine lv_aload_n (pc := 18) hx hb dX12_mark_18 rfl (lv_at hl 0 rfl) ?_
  refine r_get (pc := 19) C hP 0 rfl fl_X12_363 rfl dX12_mark_19 ?_
  refine lv_iconst (pc := 22) (v := 3) hx hb dX12_mark_22 (by decide) ?_
  refine lv_icmp_ne (pc := 23) (tgt := 32) hx hb dX12_mark_23 (by decide) (fun c_23 => ?_) (fun c_23 => ?_)
  · replace hf := it_f c_23 hf
    refine lv_iconst (pc := 32) (v := 0) hx hb dX12_mark_32 (by decide) ?_
    refine lv_istore_n (pc := 33) (lv' := [(1, .int 0), (0, .ref h)]) hx hb dX12_mark_33 rfl hl (by decide) rfl (fun ls hl => ?_)
    have key34 : ∀ (n : Nat) (x34_1 : Int32) (x34_kept : Nat → Int32) , lp (BX12_mark_34 N v_marks v_w) n (x34_1, x34_kept) = some z → AT p l e (rmOf 1 21) s m args below meth c E A Q 0 0 2 [(0, .ref h), (1, .int x34_1)] (wX12_mark E h h_inn h_tape h_far h_from h_real h_other h_kept h_set h_w h_book h_noteSort h_whose h_what h_noteIs h_fitting h_dawn h_likes h_walked h_came 0 v_trouble v_where v_read v_taped v_size v_at v_sort v_place v_sign v_number v_fault v_wrongAt v_word v_marks v_notes v_w x34_kept) 34 [] := by
      intro n
      induction n with
      | zero => intro x34_1 x34_kept hf; exact (lp_0 hf).elim
      | succ n ih34 =>
        intro x34_1 x34_kept hf H locs ls hl hP hD hS
        replace hf := lp_s hf
        generalize lp (BX12_mark_34 N v_marks v_w) n = rec34 at ih34 hf
        unfold BX12_mark_34 at hf
        replace hf := un2_s hf
        refine lv_iload_n (pc := 34) hx hb dX12_mark_34 rfl (lv_at hl 1 rfl) ?_
        refine lv_bipush (pc := 35) (v := 51) hx hb dX12_mark_35 (by decide) ?_
        refine lv_icmp_ge (pc := 37) (tgt := 66) hx hb dX12_mark_37 (by decide) (fun c_37 => ?_) (fun c_37 => ?_)
        · replace hf := it_t c_37 hf
          refine lv_aload_n (pc := 66) hx hb dX12_mark_66 rfl (lv_at hl 0 rfl) ?_
          refine lv_dup (pc := 67) hx hb dX12_mark_67 rfl ?_
          refine r_get (pc := 68) C hP 0 rfl fl_X12_363 rfl dX12_mark_68 ?_
          refine lv_iconst (pc := 71) (v := 1) hx hb dX12_mark_71 (by decide) ?_
          refine lv_iadd (pc := 72) hx hb dX12_mark_72 ?_
          refine r_put (pc := 73) (ws' := (wX12_mark E h h_inn h_tape h_far h_from h_real h_other h_kept h_set h_w h_book h_noteSort h_whose h_what h_noteIs h_fitting h_dawn h_likes h_walked h_came 0 v_trouble v_where v_read v_taped v_size v_at v_sort v_place v_sign v_number v_fault v_wrongAt v_word (v_marks + 1) v_notes v_w x34_kept)) C hP hD hS 0 rfl fl_X12_363 rfl rfl (Nat.le_of_ble_eq_true rfl) rfl dX12_mark_73 ?_
          clear hP hD hS; intro H locs hP hD hS
          refine lv_aload_n (pc := 76) hx hb dX12_mark_76 rfl (lv_at hl 0 rfl) ?_
          refine lv_aload_n (pc := 77) hx hb dX12_mark_77 rfl (lv_at hl 0 rfl) ?_
          refine r_get (pc := 78) C hP 0 rfl fl_X12_363 rfl dX12_mark_78 ?_
          refine lv_iconst (pc := 81) (v := 1) hx hb dX12_mark_81 (by decide) ?_
          refine lv_isub (pc := 82) hx hb dX12_mark_82 ?_
          obtain ⟨r_83, v_trouble_83, v_where_83, hc_83, hf⟩ := bd3 hf
          refine r_dalVi (pc := 83) (ws' := (wX12_mark E h h_inn h_tape h_far h_from h_real h_other h_kept h_set h_w h_book h_noteSort h_whose h_what h_noteIs h_fitting h_dawn h_likes h_walked h_came 0 v_trouble_83 v_where_83 v_read v_taped v_size v_at v_sort v_place v_sign v_number v_fault v_wrongAt v_word (v_marks + 1) v_notes v_w x34_kept)) (As := [.int ((v_marks + 1) - 1)]) (rest := []) C (ctX12_good l E h h_tape h_far h_from h_real h_other h_kept h_set h_w h_book h_noteSort h_whose h_what h_noteIs h_fitting h_dawn h_likes h_walked h_came 0 v_trouble v_where (some h_inn) v_read v_taped v_size v_at v_sort v_place v_sign v_number v_fault v_wrongAt v_word (v_marks + 1) v_notes N ((v_marks + 1) - 1) (r_83, v_trouble_83, v_where_83) hc_83) ml_X12_81 ⟨Nat.le_of_ble_eq_true rfl, Nat.le_of_ble_eq_true rfl⟩ hP hD hS 0 rfl rfl rfl [0] [3, 1, 2] 3 rfl rfl rfl rfl rfl rfl rfl hl.1 rfl (Nat.le_of_ble_eq_true rfl) ⟨Nat.zero_le _, Nat.zero_le _⟩ dX12_mark_83 ?_
          clear hP hD hS; intro H locs hP hD hS
          cases hf
          rw [hQ]
          exact r_iret C hr hP hD hS rfl dX12_mark_86
        · replace hf := it_f c_37 hf
          refine lv_aload_n (pc := 40) hx hb dX12_mark_40 rfl (lv_at hl 0 rfl) ?_
          refine r_get (pc := 41) C hP 0 rfl fl_X12_30 rfl dX12_mark_41 ?_
          refine lv_bipush (pc := 44) (v := 51) hx hb dX12_mark_44 (by decide) ?_
          refine lv_aload_n (pc := 46) hx hb dX12_mark_46 rfl (lv_at hl 0 rfl) ?_
          refine r_get (pc := 47) C hP 0 rfl fl_X12_363 rfl dX12_mark_47 ?_
          refine lv_imul (pc := 50) hx hb dX12_mark_50 ?_
          refine lv_iload_n (pc := 51) hx hb dX12_mark_51 rfl (lv_at hl 1 rfl) ?_
          refine lv_iadd (pc := 52) hx hb dX12_mark_52 ?_
          refine lv_aload_n (pc := 53) hx hb dX12_mark_53 rfl (lv_at hl 0 rfl) ?_
          refine r_get (pc := 54) C hP 0 rfl fl_X12_36 rfl dX12_mark_54 ?_
          refine lv_iload_n (pc := 57) hx hb dX12_mark_57 rfl (lv_at hl 1 rfl) ?_
          obtain ⟨hi_58, hf⟩ := gd_s hf
          refine r_iald (pc := 58) C hP 1 rfl hi_58 dX12_mark_58 ?_
          obtain ⟨hi_59, hf⟩ := gd_s hf
          refine r_iast (pc := 59) (ws' := (wX12_mark E h h_inn h_tape h_far h_from h_real h_other h_kept h_set h_w h_book h_noteSort h_whose h_what h_noteIs h_fitting h_dawn h_likes h_walked h_came 0 v_trouble v_where v_read v_taped v_size v_at v_sort v_place v_sign v_number v_fault v_wrongAt v_word v_marks v_notes v_w (upd x34_kept ((51 * v_marks) + x34_1).toNatClampNeg (v_w x34_1.toNatClampNeg)))) C hP hD hS 2 rfl hi_59 rfl dX12_mark_59 ?_
          clear hP hD hS; intro H locs hP hD hS
          refine lv_iinc (pc := 60) (v := x34_1 + 1) (lv' := [(1, .int (x34_1 + 1)), (0, .ref h)]) hx hb dX12_mark_60 hl (k := 1) rfl rfl (by decide) rfl (fun ls hl => ?_)
          refine lv_goto (pc := 63) (tgt := 34) hx hb dX12_mark_63 (by decide) ?_
          exact ih34 (x34_1 + 1) (upd x34_kept ((51 * v_marks) + x34_1).toNatClampNeg (v_w x34_1.toNatClampNeg)) hf _ _ _ (lv_sub hl [1, 0] rfl) hP hD hS
    exact key34 _ 0 v_kept hf _ _ _ (lv_sub hl [1, 0] rfl) hP hD hS
  · replace hf := it_t c_23 hf
    refine lv_aload_n (pc := 26) hx hb dX12_mark_26 rfl (lv_at hl 0 rfl) ?_
    refine lv_iconst (pc := 27) (v := 3) hx hb dX12_mark_27 (by decide) ?_
    obtain ⟨r_28, v_trouble_28, v_where_28, hc_28, hf⟩ := bd3 hf
    refine r_dalVi (pc := 28) (ws' := (wX12_mark E h h_inn h_tape h_far h_from h_real h_other h_kept h_set h_w h_book h_noteSort h_whose h_what h_noteIs h_fitting h_dawn h_likes h_walked h_came 0 v_trouble_28 v_where_28 v_read v_taped v_size v_at v_sort v_place v_sign v_number v_fault v_wrongAt v_word v_marks v_notes v_w v_kept)) (As := [.int 3]) (rest := []) C (ctX12_refused l E h h_tape h_far h_from h_real h_other h_kept h_set h_w h_book h_noteSort h_whose h_what h_noteIs h_fitting h_dawn h_likes h_walked h_came 0 v_trouble v_where (some h_inn) v_read v_taped v_size v_at v_sort v_place v_sign v_number v_fault v_wrongAt v_word v_marks v_notes N 3 (r_28, v_trouble_28, v_where_28) hc_28) ml_X12_77 ⟨Nat.le_of_ble_eq_true rfl, Nat.le_of_ble_eq_true rfl⟩ hP hD hS 0 rfl rfl rfl [0] [3, 1, 2] 3 rfl rfl rfl rfl rfl rfl rfl hl.1 rfl (Nat.le_of_ble_eq_true rfl) ⟨Nat.zero_le _, Nat.zero_le _⟩ dX12_mark_28 ?_
    clear hP hD hS; intro H locs hP hD hS
    cases hf
    rw [hQ]
    exact r_iret C hr hP hD hS rfl dX12_mark_31
def wX12_mark0 (E : EN) (h h_tape h_far h_from h_real h_other h_kept h_set h_w h_book h_noteSort h_whose h_what h_noteIs h_fitting h_dawn h_likes h_walked h_came : Nat) (v_thrown : Int32) (v_trouble : Int32) (v_where : Int32) (v_read : Option Nat) (v_taped : Int32) (v_size : Int32) (v_at : Int32) (v_sort : Int32) (v_place : Int32) (v_sign : Int32) (v_number : Int32) (v_fault : Int32) (v_wrongAt : Int32) (v_word : Int64) (v_marks : Int32) (v_notes : Int32) : va_W := [(h, .inr (11, [.int v_thrown, .int v_trouble, .int v_where, .null, va_rf v_read, .ref h_tape, .int v_taped, .int v_size, .int v_at, .int v_sort, .int v_place, .int v_sign, .int v_number, .int v_fault, .int v_wrongAt, .long v_word, .ref h_far, .ref h_from, .ref h_real, .ref h_other, .ref h_kept, .ref h_set, .ref h_w, .int v_marks, .int v_notes, .ref h_book, .ref h_noteSort, .ref h_whose, .ref h_what, .ref h_noteIs, .ref h_fitting, .ref h_dawn, .ref h_likes, .ref h_walked, .ref h_came]))]
def fX12_mark0 (N : Nat) : Option (Int32 × Int32 × Int32 × Int32) := (fX12_refused N 1).bind (un3 fun (r_14 : Int32) (v_trouble_14 : Int32) (v_where_14 : Int32) => some (r_14, 0, v_trouble_14, v_where_14))
set_option maxHeartbeats 4000000 in
set_option maxRecDepth 100000 in
theorem ctX12_mark0 (l : Launch) (E : EN) (h h_tape h_far h_from h_real h_other h_kept h_set h_w h_book h_noteSort h_whose h_what h_noteIs h_fitting h_dawn h_likes h_walked h_came : Nat) (v_thrown : Int32) (v_trouble : Int32) (v_where : Int32) (v_read : Option Nat) (v_taped : Int32) (v_size : Int32) (v_at : Int32) (v_sort : Int32) (v_place : Int32) (v_sign : Int32) (v_number : Int32) (v_fault : Int32) (v_wrongAt : Int32) (v_word : Int64) (v_marks : Int32) (v_notes : Int32) (N : Nat) (z : Int32 × Int32 × Int32 × Int32) (hf : fX12_mark0 N  = some z) : CTi l E yX12_mark cX12_mark 2 .int 1 21 [.ref h] (wX12_mark0 E h h_tape h_far h_from h_real h_other h_kept h_set h_w h_book h_noteSort h_whose h_what h_noteIs h_fitting h_dawn h_likes h_walked h_came v_thrown v_trouble v_where v_read v_taped v_size v_at v_sort v_place v_sign v_number v_fault v_wrongAt v_word v_marks v_notes) (z.1) (wX12_mark0 E h h_tape h_far h_from h_real h_other h_kept h_set h_w h_book h_noteSort h_whose h_what h_noteIs h_fitting h_dawn h_likes h_walked h_came z.2.1 z.2.2.1 z.2.2.2 v_read v_taped v_size v_at v_sort v_place v_sign v_number v_fault v_wrongAt v_word v_marks v_notes) := by
  intro sz
  refine ct_body (by decide) (Nat.le_of_ble_eq_true rfl) ?_
  intro p e s m args below meth c A ls hAe C hr hin hP hD hS hl
  have C : CX p s m args meth c cX12_mark RX12 2 E A := C
  have hl : lv_has ls 2 [(0, .ref h)] := hl
  have hx := C.1
  have hb := C.2.1
  rw [hAe]
  clear hAe
  obtain ⟨Q, hQ⟩ : ∃ Q, Q = MQ below (Qi E A (z.1) (wX12_mark0 E h h_tape h_far h_from h_real h_other h_kept h_set h_w h_book h_noteSort h_whose h_what h_noteIs h_fitting h_dawn h_likes h_walked h_came z.2.1 z.2.2.1 z.2.2.2 v_read v_taped v_size v_at v_sort v_place v_sign v_number v_fault v_wrongAt v_word v_marks v_notes)) args s 0 0 A := ⟨_, rfl⟩
  rw [← hQ]
  unfold fX12_mark0 at hf
  refine lv_aload_n (pc := 0) hx hb dX12_mark_0 rfl (lv_at hl 0 rfl) ?_
  refine lv_iconst (pc := 1) (v := 0) hx hb dX12_mark_1 (by decide) ?_
  refine r_put (pc := 2) (ws' := (wX12_mark0 E h h_tape h_far h_from h_real h_other h_kept h_set h_w h_book h_noteSort h_whose h_what h_noteIs h_fitting h_dawn h_likes h_walked h_came 0 v_trouble v_where v_read v_taped v_size v_at v_sort v_place v_sign v_number v_fault v_wrongAt v_word v_marks v_notes)) C hP hD hS 0 rfl fl_X12_71 rfl rfl (Nat.le_of_ble_eq_true rfl) rfl dX12_mark_2 ?_
  clear hP hD hS; intro H locs hP hD hS
  refine lv_aload_n (pc := 5) hx hb dX12_mark_5 rfl (lv_at hl 0 rfl) ?_
  refine r_get (pc := 6) C hP 0 rfl fl_X12_358 rfl dX12_mark_6 ?_
  refine lv_ifnonnullN (pc := 9) hx hb dX12_mark_9 ?_
  refine lv_aload_n (pc := 12) hx hb dX12_mark_12 rfl (lv_at hl 0 rfl) ?_
  refine lv_iconst (pc := 13) (v := 1) hx hb dX12_mark_13 (by decide) ?_
  obtain ⟨r_14, v_trouble_14, v_where_14, hc_14, hf⟩ := bd3 hf
  refine r_dalVi (pc := 14) (ws' := (wX12_mark0 E h h_tape h_far h_from h_real h_other h_kept h_set h_w h_book h_noteSort h_whose h_what h_noteIs h_fitting h_dawn h_likes h_walked h_came 0 v_trouble_14 v_where_14 v_read v_taped v_size v_at v_sort v_place v_sign v_number v_fault v_wrongAt v_word v_marks v_notes)) (As := [.int 1]) (rest := []) C (ctX12_refused l E h h_tape h_far h_from h_real h_other h_kept h_set h_w h_book h_noteSort h_whose h_what h_noteIs h_fitting h_dawn h_likes h_walked h_came 0 v_trouble v_where none v_read v_taped v_size v_at v_sort v_place v_sign v_number v_fault v_wrongAt v_word v_marks v_notes N 1 (r_14, v_trouble_14, v_where_14) hc_14) ml_X12_77 ⟨Nat.le_of_ble_eq_true rfl, Nat.le_of_ble_eq_true rfl⟩ hP hD hS 0 rfl rfl rfl [0] [1] 1 rfl rfl rfl rfl rfl rfl rfl hl.1 rfl (Nat.le_of_ble_eq_true rfl) ⟨Nat.zero_le _, Nat.zero_le _⟩ dX12_mark_14 ?_
  clear hP hD hS; intro H locs hP hD hS
  cases hf
  rw [hQ]
  exact r_iret C hr hP hD hS rfl dX12_mark_17
