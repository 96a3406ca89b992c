theorem dX10_noteDoor_0 : decode cX10_noteDoor 0 = .ok (.iload_n 1, 1) := by decide +kernel
theorem dX10_noteDoor_1 : decode cX10_noteDoor 1 = .ok (.invokestatic 249, 3) := by decide +kernel
theorem dX10_noteDoor_4 : decode cX10_noteDoor 4 = .ok (.ifCond .eq 11, 3) := by decide +kernel
theorem dX10_noteDoor_7 : decode cX10_noteDoor 7 = .ok (.aload_n 0, 1) := by decide +kernel
theorem dX10_noteDoor_8 : decode cX10_noteDoor 8 = .ok (.iload_n 2, 1) := by decide +kernel
theorem dX10_noteDoor_9 : decode cX10_noteDoor 9 = .ok (.invokevirtual 213, 3) := by decide +kernel
theorem dX10_noteDoor_12 : decode cX10_noteDoor 12 = .ok (.ifCond .ne 9, 3) := by decide +kernel
theorem dX10_noteDoor_15 : decode cX10_noteDoor 15 = .ok (.aload_n 0, 1) := by decide +kernel
theorem dX10_noteDoor_16 : decode cX10_noteDoor 16 = .ok (.iconst 1, 1) := by decide +kernel
theorem dX10_noteDoor_17 : decode cX10_noteDoor 17 = .ok (.invokevirtual 68, 3) := by decide +kernel
theorem dX10_noteDoor_20 : decode cX10_noteDoor 20 = .ok (.ireturn, 1) := by decide +kernel
theorem dX10_noteDoor_21 : decode cX10_noteDoor 21 = .ok (.iload_n 3, 1) := by decide +kernel
theorem dX10_noteDoor_22 : decode cX10_noteDoor 22 = .ok (.ifCond .lt 8, 3) := by decide +kernel
theorem dX10_noteDoor_25 : decode cX10_noteDoor 25 = .ok (.iload_n 3, 1) := by decide +kernel
theorem dX10_noteDoor_26 : decode cX10_noteDoor 26 = .ok (.iconst 2, 1) := by decide +kernel
theorem dX10_noteDoor_27 : decode cX10_noteDoor 27 = .ok (.if_icmp .le 9, 3) := by decide +kernel
theorem dX10_noteDoor_30 : decode cX10_noteDoor 30 = .ok (.aload_n 0, 1) := by decide +kernel
theorem dX10_noteDoor_31 : decode cX10_noteDoor 31 = .ok (.iconst 2, 1) := by decide +kernel
theorem dX10_noteDoor_32 : decode cX10_noteDoor 32 = .ok (.invokevirtual 68, 3) := by decide +kernel
theorem dX10_noteDoor_35 : decode cX10_noteDoor 35 = .ok (.ireturn, 1) := by decide +kernel
theorem dX10_noteDoor_36 : decode cX10_noteDoor 36 = .ok (.aload_n 0, 1) := by decide +kernel
theorem dX10_noteDoor_37 : decode cX10_noteDoor 37 = .ok (.iload_n 1, 1) := by decide +kernel
theorem dX10_noteDoor_38 : decode cX10_noteDoor 38 = .ok (.iconst 3, 1) := by decide +kernel
theorem dX10_noteDoor_39 : decode cX10_noteDoor 39 = .ok (.iload_n 2, 1) := by decide +kernel
theorem dX10_noteDoor_40 : decode cX10_noteDoor 40 = .ok (.iload_n 3, 1) := by decide +kernel
theorem dX10_noteDoor_41 : decode cX10_noteDoor 41 = .ok (.invokevirtual 252, 3) := by decide +kernel
theorem dX10_noteDoor_44 : decode cX10_noteDoor 44 = .ok (.ireturn, 1) := by decide +kernel
theorem dX10_strike_0 : decode cX10_strike 0 = .ok (.aload_n 0, 1) := by decide +kernel
theorem dX10_strike_1 : decode cX10_strike 1 = .ok (.getfield 43, 3) := by decide +kernel
theorem dX10_strike_4 : decode cX10_strike 4 = .ok (.getfield 256, 3) := by decide +kernel
theorem dX10_strike_7 : decode cX10_strike 7 = .ok (.ifCond .ne 10, 3) := by decide +kernel
theorem dX10_strike_10 : decode cX10_strike 10 = .ok (.aload_n 0, 1) := by decide +kernel
theorem dX10_strike_11 : decode cX10_strike 11 = .ok (.bipush 6, 2) := by decide +kernel
theorem dX10_strike_13 : decode cX10_strike 13 = .ok (.invokevirtual 152, 3) := by decide +kernel
theorem dX10_strike_16 : decode cX10_strike 16 = .ok (.ireturn, 1) := by decide +kernel
theorem dX10_strike_17 : decode cX10_strike 17 = .ok (.aload_n 0, 1) := by decide +kernel
theorem dX10_strike_18 : decode cX10_strike 18 = .ok (.getfield 43, 3) := by decide +kernel
theorem dX10_strike_21 : decode cX10_strike 21 = .ok (.dup, 1) := by decide +kernel
theorem dX10_strike_22 : decode cX10_strike 22 = .ok (.getfield 256, 3) := by decide +kernel
theorem dX10_strike_25 : decode cX10_strike 25 = .ok (.iconst 1, 1) := by decide +kernel
theorem dX10_strike_26 : decode cX10_strike 26 = .ok (.isub, 1) := by decide +kernel
theorem dX10_strike_27 : decode cX10_strike 27 = .ok (.putfield 256, 3) := by decide +kernel
theorem dX10_strike_30 : decode cX10_strike 30 = .ok (.aload_n 0, 1) := by decide +kernel
theorem dX10_strike_31 : decode cX10_strike 31 = .ok (.invokevirtual 163, 3) := by decide +kernel
theorem dX10_strike_34 : decode cX10_strike 34 = .ok (.ireturn, 1) := by decide +kernel
theorem dX10_areBooks_0 : decode cX10_areBooks 0 = .ok (.iload_n 0, 1) := by decide +kernel
theorem dX10_areBooks_1 : decode cX10_areBooks 1 = .ok (.iconst 4, 1) := by decide +kernel
theorem dX10_areBooks_2 : decode cX10_areBooks 2 = .ok (.invokestatic 121, 3) := by decide +kernel
theorem dX10_areBooks_5 : decode cX10_areBooks 5 = .ok (.ireturn, 1) := by decide +kernel
theorem dX3_wasHeard_0 : decode cX3_wasHeard 0 = .ok (.aload_n 0, 1) := by decide +kernel
theorem dX3_wasHeard_1 : decode cX3_wasHeard 1 = .ok (.getfield 11, 3) := by decide +kernel
theorem dX3_wasHeard_4 : decode cX3_wasHeard 4 = .ok (.iload_n 1, 1) := by decide +kernel
theorem dX3_wasHeard_5 : decode cX3_wasHeard 5 = .ok (.iconst 4, 1) := by decide +kernel
theorem dX3_wasHeard_6 : decode cX3_wasHeard 6 = .ok (.imul, 1) := by decide +kernel
theorem dX3_wasHeard_7 : decode cX3_wasHeard 7 = .ok (.iload_n 2, 1) := by decide +kernel
theorem dX3_wasHeard_8 : decode cX3_wasHeard 8 = .ok (.iadd, 1) := by decide +kernel
theorem dX3_wasHeard_9 : decode cX3_wasHeard 9 = .ok (.laload, 1) := by decide +kernel
theorem dX3_wasHeard_10 : decode cX3_wasHeard 10 = .ok (.iload_n 3, 1) := by decide +kernel
theorem dX3_wasHeard_11 : decode cX3_wasHeard 11 = .ok (.invokestatic 73, 3) := by decide +kernel
theorem dX3_wasHeard_14 : decode cX3_wasHeard 14 = .ok (.ireturn, 1) := by decide +kernel
theorem dX3_roomOfThing_0 : decode cX3_roomOfThing 0 = .ok (.aload_n 0, 1) := by decide +kernel
theorem dX3_roomOfThing_1 : decode cX3_roomOfThing 1 = .ok (.getfield 11, 3) := by decide +kernel
theorem dX3_roomOfThing_4 : decode cX3_roomOfThing 4 = .ok (.iload_n 1, 1) := by decide +kernel
theorem dX3_roomOfThing_5 : decode cX3_roomOfThing 5 = .ok (.iconst 4, 1) := by decide +kernel
theorem dX3_roomOfThing_6 : decode cX3_roomOfThing 6 = .ok (.imul, 1) := by decide +kernel
theorem dX3_roomOfThing_7 : decode cX3_roomOfThing 7 = .ok (.iconst 3, 1) := by decide +kernel
theorem dX3_roomOfThing_8 : decode cX3_roomOfThing 8 = .ok (.iadd, 1) := by decide +kernel
theorem dX3_roomOfThing_9 : decode cX3_roomOfThing 9 = .ok (.laload, 1) := by decide +kernel
theorem dX3_roomOfThing_10 : decode cX3_roomOfThing 10 = .ok (.iconst 4, 1) := by decide +kernel
theorem dX3_roomOfThing_11 : decode cX3_roomOfThing 11 = .ok (.iload_n 2, 1) := by decide +kernel
theorem dX3_roomOfThing_12 : decode cX3_roomOfThing 12 = .ok (.imul, 1) := by decide +kernel
theorem dX3_roomOfThing_13 : decode cX3_roomOfThing 13 = .ok (.iconst 1, 1) := by decide +kernel
theorem dX3_roomOfThing_14 : decode cX3_roomOfThing 14 = .ok (.iadd, 1) := by decide +kernel
theorem dX3_roomOfThing_15 : decode cX3_roomOfThing 15 = .ok (.lushr, 1) := by decide +kernel
theorem dX3_roomOfThing_16 : decode cX3_roomOfThing 16 = .ok (.l2i, 1) := by decide +kernel
theorem dX3_roomOfThing_17 : decode cX3_roomOfThing 17 = .ok (.bipush 7, 2) := by decide +kernel
theorem dX3_roomOfThing_19 : decode cX3_roomOfThing 19 = .ok (.iand, 1) := by decide +kernel
theorem dX3_roomOfThing_20 : decode cX3_roomOfThing 20 = .ok (.ireturn, 1) := by decide +kernel
theorem dX3_howIsDoor_0 : decode cX3_howIsDoor 0 = .ok (.aload_n 0, 1) := by decide +kernel
theorem dX3_howIsDoor_1 : decode cX3_howIsDoor 1 = .ok (.getfield 11, 3) := by decide +kernel
theorem dX3_howIsDoor_4 : decode cX3_howIsDoor 4 = .ok (.iload_n 1, 1) := by decide +kernel
theorem dX3_howIsDoor_5 : decode cX3_howIsDoor 5 = .ok (.iconst 4, 1) := by decide +kernel
theorem dX3_howIsDoor_6 : decode cX3_howIsDoor 6 = .ok (.imul, 1) := by decide +kernel
theorem dX3_howIsDoor_7 : decode cX3_howIsDoor 7 = .ok (.iconst 3, 1) := by decide +kernel
theorem dX3_howIsDoor_8 : decode cX3_howIsDoor 8 = .ok (.iadd, 1) := by decide +kernel
theorem dX3_howIsDoor_9 : decode cX3_howIsDoor 9 = .ok (.laload, 1) := by decide +kernel
theorem dX3_howIsDoor_10 : decode cX3_howIsDoor 10 = .ok (.bipush 16, 2) := by decide +kernel
theorem dX3_howIsDoor_12 : decode cX3_howIsDoor 12 = .ok (.iconst 2, 1) := by decide +kernel
theorem dX3_howIsDoor_13 : decode cX3_howIsDoor 13 = .ok (.iload_n 2, 1) := by decide +kernel
theorem dX3_howIsDoor_14 : decode cX3_howIsDoor 14 = .ok (.imul, 1) := by decide +kernel
theorem dX3_howIsDoor_15 : decode cX3_howIsDoor 15 = .ok (.iadd, 1) := by decide +kernel
theorem dX3_howIsDoor_16 : decode cX3_howIsDoor 16 = .ok (.lushr, 1) := by decide +kernel
theorem dX3_howIsDoor_17 : decode cX3_howIsDoor 17 = .ok (.l2i, 1) := by decide +kernel
theorem dX3_howIsDoor_18 : decode cX3_howIsDoor 18 = .ok (.iconst 3, 1) := by decide +kernel
theorem dX3_howIsDoor_19 : decode cX3_howIsDoor 19 = .ok (.iand, 1) := by decide +kernel
theorem dX3_howIsDoor_20 : decode cX3_howIsDoor 20 = .ok (.ireturn, 1) := by decide +kernel
theorem dX5_isSo_0 : decode cX5_isSo 0 = .ok (.aload_n 0, 1) := by decide +kernel
theorem dX5_isSo_1 : decode cX5_isSo 1 = .ok (.getfield 15, 3) := by decide +kernel
theorem dX5_isSo_4 : decode cX5_isSo 4 = .ok (.iload_n 1, 1) := by decide +kernel
theorem dX5_isSo_5 : decode cX5_isSo 5 = .ok (.iaload, 1) := by decide +kernel
theorem dX5_isSo_6 : decode cX5_isSo 6 = .ok (.tableswitch 96 0 2 #[26, 44, 70], 26) := by decide +kernel
theorem dX5_isSo_32 : decode cX5_isSo 32 = .ok (.aload_n 2, 1) := by decide +kernel
theorem dX5_isSo_33 : decode cX5_isSo 33 = .ok (.iload_n 3, 1) := by decide +kernel
theorem dX5_isSo_34 : decode cX5_isSo 34 = .ok (.aload_n 0, 1) := by decide +kernel
theorem dX5_isSo_35 : decode cX5_isSo 35 = .ok (.getfield 18, 3) := by decide +kernel
theorem dX5_isSo_38 : decode cX5_isSo 38 = .ok (.iload_n 1, 1) := by decide +kernel
theorem dX5_isSo_39 : decode cX5_isSo 39 = .ok (.iaload, 1) := by decide +kernel
theorem dX5_isSo_40 : decode cX5_isSo 40 = .ok (.aload_n 0, 1) := by decide +kernel
theorem dX5_isSo_41 : decode cX5_isSo 41 = .ok (.getfield 21, 3) := by decide +kernel
theorem dX5_isSo_44 : decode cX5_isSo 44 = .ok (.iload_n 1, 1) := by decide +kernel
theorem dX5_isSo_45 : decode cX5_isSo 45 = .ok (.iaload, 1) := by decide +kernel
theorem dX5_isSo_46 : decode cX5_isSo 46 = .ok (.invokevirtual 36, 3) := by decide +kernel
theorem dX5_isSo_49 : decode cX5_isSo 49 = .ok (.ireturn, 1) := by decide +kernel
theorem dX5_isSo_50 : decode cX5_isSo 50 = .ok (.aload_n 2, 1) := by decide +kernel
theorem dX5_isSo_51 : decode cX5_isSo 51 = .ok (.iload_n 3, 1) := by decide +kernel
theorem dX5_isSo_52 : decode cX5_isSo 52 = .ok (.aload_n 0, 1) := by decide +kernel
theorem dX5_isSo_53 : decode cX5_isSo 53 = .ok (.getfield 18, 3) := by decide +kernel
theorem dX5_isSo_56 : decode cX5_isSo 56 = .ok (.iload_n 1, 1) := by decide +kernel
theorem dX5_isSo_57 : decode cX5_isSo 57 = .ok (.iaload, 1) := by decide +kernel
theorem dX5_isSo_58 : decode cX5_isSo 58 = .ok (.aload_n 0, 1) := by decide +kernel
theorem dX5_isSo_59 : decode cX5_isSo 59 = .ok (.getfield 21, 3) := by decide +kernel
theorem dX5_isSo_62 : decode cX5_isSo 62 = .ok (.iload_n 1, 1) := by decide +kernel
theorem dX5_isSo_63 : decode cX5_isSo 63 = .ok (.iaload, 1) := by decide +kernel
theorem dX5_isSo_64 : decode cX5_isSo 64 = .ok (.invokevirtual 36, 3) := by decide +kernel
theorem dX5_isSo_67 : decode cX5_isSo 67 = .ok (.ifCond .ne 7, 3) := by decide +kernel
theorem dX5_isSo_70 : decode cX5_isSo 70 = .ok (.iconst 1, 1) := by decide +kernel
theorem dX5_isSo_71 : decode cX5_isSo 71 = .ok (.goto 4, 3) := by decide +kernel
theorem dX5_isSo_74 : decode cX5_isSo 74 = .ok (.iconst 0, 1) := by decide +kernel
theorem dX5_isSo_75 : decode cX5_isSo 75 = .ok (.ireturn, 1) := by decide +kernel
theorem dX5_isSo_76 : decode cX5_isSo 76 = .ok (.aload_n 2, 1) := by decide +kernel
theorem dX5_isSo_77 : decode cX5_isSo 77 = .ok (.iload_n 3, 1) := by decide +kernel
theorem dX5_isSo_78 : decode cX5_isSo 78 = .ok (.aload_n 0, 1) := by decide +kernel
theorem dX5_isSo_79 : decode cX5_isSo 79 = .ok (.getfield 18, 3) := by decide +kernel
theorem dX5_isSo_82 : decode cX5_isSo 82 = .ok (.iload_n 1, 1) := by decide +kernel
theorem dX5_isSo_83 : decode cX5_isSo 83 = .ok (.iaload, 1) := by decide +kernel
theorem dX5_isSo_84 : decode cX5_isSo 84 = .ok (.invokevirtual 42, 3) := by decide +kernel
theorem dX5_isSo_87 : decode cX5_isSo 87 = .ok (.aload_n 0, 1) := by decide +kernel
theorem dX5_isSo_88 : decode cX5_isSo 88 = .ok (.getfield 21, 3) := by decide +kernel
theorem dX5_isSo_91 : decode cX5_isSo 91 = .ok (.iload_n 1, 1) := by decide +kernel
theorem dX5_isSo_92 : decode cX5_isSo 92 = .ok (.iaload, 1) := by decide +kernel
theorem dX5_isSo_93 : decode cX5_isSo 93 = .ok (.if_icmp .ne 7, 3) := by decide +kernel
theorem dX5_isSo_96 : decode cX5_isSo 96 = .ok (.iconst 1, 1) := by decide +kernel
theorem dX5_isSo_97 : decode cX5_isSo 97 = .ok (.goto 4, 3) := by decide +kernel
theorem dX5_isSo_100 : decode cX5_isSo 100 = .ok (.iconst 0, 1) := by decide +kernel
theorem dX5_isSo_101 : decode cX5_isSo 101 = .ok (.ireturn, 1) := by decide +kernel
theorem dX5_isSo_102 : decode cX5_isSo 102 = .ok (.aload_n 2, 1) := by decide +kernel
theorem dX5_isSo_103 : decode cX5_isSo 103 = .ok (.iload_n 3, 1) := by decide +kernel
theorem dX5_isSo_104 : decode cX5_isSo 104 = .ok (.aload_n 0, 1) := by decide +kernel
theorem dX5_isSo_105 : decode cX5_isSo 105 = .ok (.getfield 18, 3) := by decide +kernel
theorem dX5_isSo_108 : decode cX5_isSo 108 = .ok (.iload_n 1, 1) := by decide +kernel
theorem dX5_isSo_109 : decode cX5_isSo 109 = .ok (.iaload, 1) := by decide +kernel
theorem dX5_isSo_110 : decode cX5_isSo 110 = .ok (.invokevirtual 46, 3) := by decide +kernel
theorem dX5_isSo_113 : decode cX5_isSo 113 = .ok (.aload_n 0, 1) := by decide +kernel
theorem dX5_isSo_114 : decode cX5_isSo 114 = .ok (.getfield 21, 3) := by decide +kernel
theorem dX5_isSo_117 : decode cX5_isSo 117 = .ok (.iload_n 1, 1) := by decide +kernel
theorem dX5_isSo_118 : decode cX5_isSo 118 = .ok (.iaload, 1) := by decide +kernel
theorem dX5_isSo_119 : decode cX5_isSo 119 = .ok (.if_icmp .ne 7, 3) := by decide +kernel
theorem dX5_isSo_122 : decode cX5_isSo 122 = .ok (.iconst 1, 1) := by decide +kernel
theorem dX5_isSo_123 : decode cX5_isSo 123 = .ok (.goto 4, 3) := by decide +kernel
theorem dX5_isSo_126 : decode cX5_isSo 126 = .ok (.iconst 0, 1) := by decide +kernel
theorem dX5_isSo_127 : decode cX5_isSo 127 = .ok (.ireturn, 1) := by decide +kernel
theorem dX5_areSo_0 : decode cX5_areSo 0 = .ok (.iconst 0, 1) := by decide +kernel
theorem dX5_areSo_1 : decode cX5_areSo 1 = .ok (.istore 4, 2) := by decide +kernel
theorem dX5_areSo_3 : decode cX5_areSo 3 = .ok (.iload 4, 2) := by decide +kernel
theorem dX5_areSo_5 : decode cX5_areSo 5 = .ok (.aload_n 0, 1) := by decide +kernel
theorem dX5_areSo_6 : decode cX5_areSo 6 = .ok (.getfield 24, 3) := by decide +kernel
theorem dX5_areSo_9 : decode cX5_areSo 9 = .ok (.if_icmp .ge 37, 3) := by decide +kernel
theorem dX5_areSo_12 : decode cX5_areSo 12 = .ok (.iload_n 1, 1) := by decide +kernel
theorem dX5_areSo_13 : decode cX5_areSo 13 = .ok (.i2l, 1) := by decide +kernel
theorem dX5_areSo_14 : decode cX5_areSo 14 = .ok (.aload_n 0, 1) := by decide +kernel
theorem dX5_areSo_15 : decode cX5_areSo 15 = .ok (.getfield 9, 3) := by decide +kernel
theorem dX5_areSo_18 : decode cX5_areSo 18 = .ok (.iload 4, 2) := by decide +kernel
theorem dX5_areSo_20 : decode cX5_areSo 20 = .ok (.iaload, 1) := by decide +kernel
theorem dX5_areSo_21 : decode cX5_areSo 21 = .ok (.invokestatic 28, 3) := by decide +kernel
theorem dX5_areSo_24 : decode cX5_areSo 24 = .ok (.ifCond .eq 16, 3) := by decide +kernel
theorem dX5_areSo_27 : decode cX5_areSo 27 = .ok (.aload_n 0, 1) := by decide +kernel
theorem dX5_areSo_28 : decode cX5_areSo 28 = .ok (.iload 4, 2) := by decide +kernel
theorem dX5_areSo_30 : decode cX5_areSo 30 = .ok (.aload_n 2, 1) := by decide +kernel
theorem dX5_areSo_31 : decode cX5_areSo 31 = .ok (.iload_n 3, 1) := by decide +kernel
theorem dX5_areSo_32 : decode cX5_areSo 32 = .ok (.invokevirtual 32, 3) := by decide +kernel
theorem dX5_areSo_35 : decode cX5_areSo 35 = .ok (.ifCond .ne 5, 3) := by decide +kernel
theorem dX5_areSo_38 : decode cX5_areSo 38 = .ok (.iconst 0, 1) := by decide +kernel
theorem dX5_areSo_39 : decode cX5_areSo 39 = .ok (.ireturn, 1) := by decide +kernel
theorem dX5_areSo_40 : decode cX5_areSo 40 = .ok (.iinc 4 1, 3) := by decide +kernel
theorem dX5_areSo_43 : decode cX5_areSo 43 = .ok (.goto (-40), 3) := by decide +kernel
theorem dX5_areSo_46 : decode cX5_areSo 46 = .ok (.iconst 1, 1) := by decide +kernel
theorem dX5_areSo_47 : decode cX5_areSo 47 = .ok (.ireturn, 1) := by decide +kernel
theorem dX0_gather_0 : decode cX0_gather 0 = .ok (.aload_n 0, 1) := by decide +kernel
theorem dX0_gather_1 : decode cX0_gather 1 = .ok (.iconst 0, 1) := by decide +kernel
theorem dX0_gather_2 : decode cX0_gather 2 = .ok (.putfield 91, 3) := by decide +kernel
theorem dX0_gather_5 : decode cX0_gather 5 = .ok (.iconst 0, 1) := by decide +kernel
theorem dX0_gather_6 : decode cX0_gather 6 = .ok (.istore_n 3, 1) := by decide +kernel
theorem dX0_gather_7 : decode cX0_gather 7 = .ok (.iload_n 3, 1) := by decide +kernel
theorem dX0_gather_8 : decode cX0_gather 8 = .ok (.aload_n 0, 1) := by decide +kernel
theorem dX0_gather_9 : decode cX0_gather 9 = .ok (.getfield 48, 3) := by decide +kernel
theorem dX0_gather_12 : decode cX0_gather 12 = .ok (.if_icmp .ge 42, 3) := by decide +kernel
theorem dX0_gather_15 : decode cX0_gather 15 = .ok (.aload_n 1, 1) := by decide +kernel
theorem dX0_gather_16 : decode cX0_gather 16 = .ok (.iload_n 2, 1) := by decide +kernel
theorem dX0_gather_17 : decode cX0_gather 17 = .ok (.aload_n 0, 1) := by decide +kernel
theorem dX0_gather_18 : decode cX0_gather 18 = .ok (.getfield 18, 3) := by decide +kernel
theorem dX0_gather_21 : decode cX0_gather 21 = .ok (.iload_n 3, 1) := by decide +kernel
theorem dX0_gather_22 : decode cX0_gather 22 = .ok (.invokevirtual 94, 3) := by decide +kernel
theorem dX0_gather_25 : decode cX0_gather 25 = .ok (.ifCond .eq 23, 3) := by decide +kernel
theorem dX0_gather_28 : decode cX0_gather 28 = .ok (.aload_n 0, 1) := by decide +kernel
theorem dX0_gather_29 : decode cX0_gather 29 = .ok (.getfield 32, 3) := by decide +kernel
theorem dX0_gather_32 : decode cX0_gather 32 = .ok (.aload_n 0, 1) := by decide +kernel
theorem dX0_gather_33 : decode cX0_gather 33 = .ok (.getfield 91, 3) := by decide +kernel
theorem dX0_gather_36 : decode cX0_gather 36 = .ok (.iload_n 3, 1) := by decide +kernel
theorem dX0_gather_37 : decode cX0_gather 37 = .ok (.iastore, 1) := by decide +kernel
theorem dX0_gather_38 : decode cX0_gather 38 = .ok (.aload_n 0, 1) := by decide +kernel
theorem dX0_gather_39 : decode cX0_gather 39 = .ok (.dup, 1) := by decide +kernel
theorem dX0_gather_40 : decode cX0_gather 40 = .ok (.getfield 91, 3) := by decide +kernel
theorem dX0_gather_43 : decode cX0_gather 43 = .ok (.iconst 1, 1) := by decide +kernel
theorem dX0_gather_44 : decode cX0_gather 44 = .ok (.iadd, 1) := by decide +kernel
theorem dX0_gather_45 : decode cX0_gather 45 = .ok (.putfield 91, 3) := by decide +kernel
theorem dX0_gather_48 : decode cX0_gather 48 = .ok (.iinc 3 1, 3) := by decide +kernel
theorem dX0_gather_51 : decode cX0_gather 51 = .ok (.goto (-44), 3) := by decide +kernel
theorem dX0_gather_54 : decode cX0_gather 54 = .ok (.aload_n 0, 1) := by decide +kernel
theorem dX0_gather_55 : decode cX0_gather 55 = .ok (.getfield 91, 3) := by decide +kernel
theorem dX0_gather_58 : decode cX0_gather 58 = .ok (.ireturn, 1) := by decide +kernel
theorem dX10_fits_0 : decode cX10_fits 0 = .ok (.aload_n 0, 1) := by decide +kernel
theorem dX10_fits_1 : decode cX10_fits 1 = .ok (.invokevirtual 170, 3) := by decide +kernel
theorem dX10_fits_4 : decode cX10_fits 4 = .ok (.ifCond .ne 9, 3) := by decide +kernel
theorem dX10_fits_7 : decode cX10_fits 7 = .ok (.aload_n 0, 1) := by decide +kernel
theorem dX10_fits_8 : decode cX10_fits 8 = .ok (.iconst 1, 1) := by decide +kernel
theorem dX10_fits_9 : decode cX10_fits 9 = .ok (.invokevirtual 68, 3) := by decide +kernel
theorem dX10_fits_12 : decode cX10_fits 12 = .ok (.ireturn, 1) := by decide +kernel
theorem dX10_fits_13 : decode cX10_fits 13 = .ok (.iload_n 1, 1) := by decide +kernel
theorem dX10_fits_14 : decode cX10_fits 14 = .ok (.invokestatic 259, 3) := by decide +kernel
theorem dX10_fits_17 : decode cX10_fits 17 = .ok (.ifCond .ne 9, 3) := by decide +kernel
theorem dX10_fits_20 : decode cX10_fits 20 = .ok (.aload_n 0, 1) := by decide +kernel
theorem dX10_fits_21 : decode cX10_fits 21 = .ok (.iconst 2, 1) := by decide +kernel
theorem dX10_fits_22 : decode cX10_fits 22 = .ok (.invokevirtual 68, 3) := by decide +kernel
theorem dX10_fits_25 : decode cX10_fits 25 = .ok (.ireturn, 1) := by decide +kernel
theorem dX10_fits_26 : decode cX10_fits 26 = .ok (.aload_n 0, 1) := by decide +kernel
theorem dX10_fits_27 : decode cX10_fits 27 = .ok (.aload_n 0, 1) := by decide +kernel
theorem dX10_fits_28 : decode cX10_fits 28 = .ok (.getfield 50, 3) := by decide +kernel
theorem dX10_fits_31 : decode cX10_fits 31 = .ok (.aload_n 0, 1) := by decide +kernel
theorem dX10_fits_32 : decode cX10_fits 32 = .ok (.getfield 43, 3) := by decide +kernel
theorem dX10_fits_35 : decode cX10_fits 35 = .ok (.iload_n 1, 1) := by decide +kernel
theorem dX10_fits_36 : decode cX10_fits 36 = .ok (.invokevirtual 262, 3) := by decide +kernel
theorem dX10_fits_39 : decode cX10_fits 39 = .ok (.invokevirtual 95, 3) := by decide +kernel
theorem dX10_fits_42 : decode cX10_fits 42 = .ok (.ireturn, 1) := by decide +kernel
theorem dX0_dreamIn_0 : decode cX0_dreamIn 0 = .ok (.aload_n 0, 1) := by decide +kernel
theorem dX0_dreamIn_1 : decode cX0_dreamIn 1 = .ok (.getfield 9, 3) := by decide +kernel
theorem dX0_dreamIn_4 : decode cX0_dreamIn 4 = .ok (.aload_n 0, 1) := by decide +kernel
theorem dX0_dreamIn_5 : decode cX0_dreamIn 5 = .ok (.getfield 32, 3) := by decide +kernel
theorem dX0_dreamIn_8 : decode cX0_dreamIn 8 = .ok (.iload_n 1, 1) := by decide +kernel
theorem dX0_dreamIn_9 : decode cX0_dreamIn 9 = .ok (.iaload, 1) := by decide +kernel
theorem dX0_dreamIn_10 : decode cX0_dreamIn 10 = .ok (.iconst 3, 1) := by decide +kernel
theorem dX0_dreamIn_11 : decode cX0_dreamIn 11 = .ok (.imul, 1) := by decide +kernel
theorem dX0_dreamIn_12 : decode cX0_dreamIn 12 = .ok (.iload_n 2, 1) := by decide +kernel
theorem dX0_dreamIn_13 : decode cX0_dreamIn 13 = .ok (.iadd, 1) := by decide +kernel
theorem dX0_dreamIn_14 : decode cX0_dreamIn 14 = .ok (.iaload, 1) := by decide +kernel
theorem dX0_dreamIn_15 : decode cX0_dreamIn 15 = .ok (.ireturn, 1) := by decide +kernel
theorem dX10_fit_0 : decode cX10_fit 0 = .ok (.aload_n 0, 1) := by decide +kernel
theorem dX10_fit_1 : decode cX10_fit 1 = .ok (.iload_n 3, 1) := by decide +kernel
theorem dX10_fit_2 : decode cX10_fit 2 = .ok (.invokevirtual 167, 3) := by decide +kernel
theorem dX10_fit_5 : decode cX10_fit 5 = .ok (.ifCond .ne 9, 3) := by decide +kernel
theorem dX10_fit_8 : decode cX10_fit 8 = .ok (.aload_n 0, 1) := by decide +kernel
theorem dX10_fit_9 : decode cX10_fit 9 = .ok (.iconst 1, 1) := by decide +kernel
theorem dX10_fit_10 : decode cX10_fit 10 = .ok (.invokevirtual 68, 3) := by decide +kernel
theorem dX10_fit_13 : decode cX10_fit 13 = .ok (.ireturn, 1) := by decide +kernel
theorem dX10_fit_14 : decode cX10_fit 14 = .ok (.iload_n 1, 1) := by decide +kernel
theorem dX10_fit_15 : decode cX10_fit 15 = .ok (.invokestatic 259, 3) := by decide +kernel
theorem dX10_fit_18 : decode cX10_fit 18 = .ok (.ifCond .ne 9, 3) := by decide +kernel
theorem dX10_fit_21 : decode cX10_fit 21 = .ok (.aload_n 0, 1) := by decide +kernel
theorem dX10_fit_22 : decode cX10_fit 22 = .ok (.iconst 2, 1) := by decide +kernel
theorem dX10_fit_23 : decode cX10_fit 23 = .ok (.invokevirtual 68, 3) := by decide +kernel
theorem dX10_fit_26 : decode cX10_fit 26 = .ok (.ireturn, 1) := by decide +kernel
theorem dX10_fit_27 : decode cX10_fit 27 = .ok (.iload_n 2, 1) := by decide +kernel
theorem dX10_fit_28 : decode cX10_fit 28 = .ok (.aload_n 0, 1) := by decide +kernel
theorem dX10_fit_29 : decode cX10_fit 29 = .ok (.getfield 50, 3) := by decide +kernel
theorem dX10_fit_32 : decode cX10_fit 32 = .ok (.aload_n 0, 1) := by decide +kernel
theorem dX10_fit_33 : decode cX10_fit 33 = .ok (.getfield 43, 3) := by decide +kernel
theorem dX10_fit_36 : decode cX10_fit 36 = .ok (.iload_n 1, 1) := by decide +kernel
theorem dX10_fit_37 : decode cX10_fit 37 = .ok (.invokevirtual 262, 3) := by decide +kernel
theorem dX10_fit_40 : decode cX10_fit 40 = .ok (.invokestatic 121, 3) := by decide +kernel
theorem dX10_fit_43 : decode cX10_fit 43 = .ok (.ifCond .ne 9, 3) := by decide +kernel
theorem dX10_fit_46 : decode cX10_fit 46 = .ok (.aload_n 0, 1) := by decide +kernel
theorem dX10_fit_47 : decode cX10_fit 47 = .ok (.iconst 1, 1) := by decide +kernel
theorem dX10_fit_48 : decode cX10_fit 48 = .ok (.invokevirtual 68, 3) := by decide +kernel
theorem dX10_fit_51 : decode cX10_fit 51 = .ok (.ireturn, 1) := by decide +kernel
theorem dX10_fit_52 : decode cX10_fit 52 = .ok (.aload_n 0, 1) := by decide +kernel
theorem dX10_fit_53 : decode cX10_fit 53 = .ok (.aload_n 0, 1) := by decide +kernel
theorem dX10_fit_54 : decode cX10_fit 54 = .ok (.getfield 50, 3) := by decide +kernel
theorem dX10_fit_57 : decode cX10_fit 57 = .ok (.iload_n 2, 1) := by decide +kernel
theorem dX10_fit_58 : decode cX10_fit 58 = .ok (.iload_n 3, 1) := by decide +kernel
theorem dX10_fit_59 : decode cX10_fit 59 = .ok (.invokevirtual 266, 3) := by decide +kernel
theorem dX10_fit_62 : decode cX10_fit 62 = .ok (.invokevirtual 95, 3) := by decide +kernel
theorem dX10_fit_65 : decode cX10_fit 65 = .ok (.ireturn, 1) := by decide +kernel
theorem dX0_commonDream_0 : decode cX0_commonDream 0 = .ok (.iconst 1, 1) := by decide +kernel
theorem dX0_commonDream_1 : decode cX0_commonDream 1 = .ok (.istore_n 2, 1) := by decide +kernel
theorem dX0_commonDream_2 : decode cX0_commonDream 2 = .ok (.iload_n 2, 1) := by decide +kernel
theorem dX0_commonDream_3 : decode cX0_commonDream 3 = .ok (.aload_n 0, 1) := by decide +kernel
theorem dX0_commonDream_4 : decode cX0_commonDream 4 = .ok (.getfield 91, 3) := by decide +kernel
theorem dX0_commonDream_7 : decode cX0_commonDream 7 = .ok (.if_icmp .ge 27, 3) := by decide +kernel
theorem dX0_commonDream_10 : decode cX0_commonDream 10 = .ok (.aload_n 0, 1) := by decide +kernel
theorem dX0_commonDream_11 : decode cX0_commonDream 11 = .ok (.iload_n 2, 1) := by decide +kernel
theorem dX0_commonDream_12 : decode cX0_commonDream 12 = .ok (.iload_n 1, 1) := by decide +kernel
theorem dX0_commonDream_13 : decode cX0_commonDream 13 = .ok (.invokevirtual 100, 3) := by decide +kernel
theorem dX0_commonDream_16 : decode cX0_commonDream 16 = .ok (.aload_n 0, 1) := by decide +kernel
theorem dX0_commonDream_17 : decode cX0_commonDream 17 = .ok (.iconst 0, 1) := by decide +kernel
theorem dX0_commonDream_18 : decode cX0_commonDream 18 = .ok (.iload_n 1, 1) := by decide +kernel
theorem dX0_commonDream_19 : decode cX0_commonDream 19 = .ok (.invokevirtual 100, 3) := by decide +kernel
theorem dX0_commonDream_22 : decode cX0_commonDream 22 = .ok (.if_icmp .eq 6, 3) := by decide +kernel
theorem dX0_commonDream_25 : decode cX0_commonDream 25 = .ok (.bipush (-2), 2) := by decide +kernel
theorem dX0_commonDream_27 : decode cX0_commonDream 27 = .ok (.ireturn, 1) := by decide +kernel
theorem dX0_commonDream_28 : decode cX0_commonDream 28 = .ok (.iinc 2 1, 3) := by decide +kernel
theorem dX0_commonDream_31 : decode cX0_commonDream 31 = .ok (.goto (-29), 3) := by decide +kernel
theorem dX0_commonDream_34 : decode cX0_commonDream 34 = .ok (.aload_n 0, 1) := by decide +kernel
theorem dX0_commonDream_35 : decode cX0_commonDream 35 = .ok (.iconst 0, 1) := by decide +kernel
theorem dX0_commonDream_36 : decode cX0_commonDream 36 = .ok (.iload_n 1, 1) := by decide +kernel
theorem dX0_commonDream_37 : decode cX0_commonDream 37 = .ok (.invokevirtual 100, 3) := by decide +kernel
theorem dX0_commonDream_40 : decode cX0_commonDream 40 = .ok (.ireturn, 1) := by decide +kernel
theorem dX10_sure_0 : decode cX10_sure 0 = .ok (.aload_n 0, 1) := by decide +kernel
theorem dX10_sure_1 : decode cX10_sure 1 = .ok (.iload_n 1, 1) := by decide +kernel
theorem dX10_sure_2 : decode cX10_sure 2 = .ok (.invokevirtual 167, 3) := by decide +kernel
theorem dX10_sure_5 : decode cX10_sure 5 = .ok (.ifCond .ne 9, 3) := by decide +kernel
theorem dX10_sure_8 : decode cX10_sure 8 = .ok (.aload_n 0, 1) := by decide +kernel
theorem dX10_sure_9 : decode cX10_sure 9 = .ok (.iconst 1, 1) := by decide +kernel
theorem dX10_sure_10 : decode cX10_sure 10 = .ok (.invokevirtual 68, 3) := by decide +kernel
theorem dX10_sure_13 : decode cX10_sure 13 = .ok (.ireturn, 1) := by decide +kernel
theorem dX10_sure_14 : decode cX10_sure 14 = .ok (.aload_n 0, 1) := by decide +kernel
theorem dX10_sure_15 : decode cX10_sure 15 = .ok (.getfield 50, 3) := by decide +kernel
theorem dX10_sure_18 : decode cX10_sure 18 = .ok (.aload_n 0, 1) := by decide +kernel
theorem dX10_sure_19 : decode cX10_sure 19 = .ok (.getfield 43, 3) := by decide +kernel
theorem dX10_sure_22 : decode cX10_sure 22 = .ok (.iconst 3, 1) := by decide +kernel
theorem dX10_sure_23 : decode cX10_sure 23 = .ok (.invokevirtual 262, 3) := by decide +kernel
theorem dX10_sure_26 : decode cX10_sure 26 = .ok (.ifCond .ne 10, 3) := by decide +kernel
theorem dX10_sure_29 : decode cX10_sure 29 = .ok (.aload_n 0, 1) := by decide +kernel
theorem dX10_sure_30 : decode cX10_sure 30 = .ok (.bipush 6, 2) := by decide +kernel
theorem dX10_sure_32 : decode cX10_sure 32 = .ok (.invokevirtual 68, 3) := by decide +kernel
theorem dX10_sure_35 : decode cX10_sure 35 = .ok (.ireturn, 1) := by decide +kernel
theorem dX10_sure_36 : decode cX10_sure 36 = .ok (.aload_n 0, 1) := by decide +kernel
theorem dX10_sure_37 : decode cX10_sure 37 = .ok (.aload_n 0, 1) := by decide +kernel
theorem dX10_sure_38 : decode cX10_sure 38 = .ok (.getfield 50, 3) := by decide +kernel
theorem dX10_sure_41 : decode cX10_sure 41 = .ok (.iload_n 1, 1) := by decide +kernel
theorem dX10_sure_42 : decode cX10_sure 42 = .ok (.invokevirtual 269, 3) := by decide +kernel
theorem dX10_sure_45 : decode cX10_sure 45 = .ok (.invokevirtual 95, 3) := by decide +kernel
theorem dX10_sure_48 : decode cX10_sure 48 = .ok (.ireturn, 1) := by decide +kernel
theorem dX10_verdict_0 : decode cX10_verdict 0 = .ok (.aload_n 0, 1) := by decide +kernel
theorem dX10_verdict_1 : decode cX10_verdict 1 = .ok (.invokevirtual 170, 3) := by decide +kernel
theorem dX10_verdict_4 : decode cX10_verdict 4 = .ok (.ifCond .ne 9, 3) := by decide +kernel
theorem dX10_verdict_7 : decode cX10_verdict 7 = .ok (.aload_n 0, 1) := by decide +kernel
theorem dX10_verdict_8 : decode cX10_verdict 8 = .ok (.iconst 1, 1) := by decide +kernel
theorem dX10_verdict_9 : decode cX10_verdict 9 = .ok (.invokevirtual 68, 3) := by decide +kernel
theorem dX10_verdict_12 : decode cX10_verdict 12 = .ok (.ireturn, 1) := by decide +kernel
theorem dX10_verdict_13 : decode cX10_verdict 13 = .ok (.aload_n 0, 1) := by decide +kernel
theorem dX10_verdict_14 : decode cX10_verdict 14 = .ok (.getfield 50, 3) := by decide +kernel
theorem dX10_verdict_17 : decode cX10_verdict 17 = .ok (.aload_n 0, 1) := by decide +kernel
theorem dX10_verdict_18 : decode cX10_verdict 18 = .ok (.getfield 43, 3) := by decide +kernel
theorem dX10_verdict_21 : decode cX10_verdict 21 = .ok (.iconst 3, 1) := by decide +kernel
theorem dX10_verdict_22 : decode cX10_verdict 22 = .ok (.invokevirtual 262, 3) := by decide +kernel
theorem dX10_verdict_25 : decode cX10_verdict 25 = .ok (.ifCond .le 9, 3) := by decide +kernel
theorem dX10_verdict_28 : decode cX10_verdict 28 = .ok (.aload_n 0, 1) := by decide +kernel
theorem dX10_verdict_29 : decode cX10_verdict 29 = .ok (.iconst 0, 1) := by decide +kernel
theorem dX10_verdict_30 : decode cX10_verdict 30 = .ok (.invokevirtual 95, 3) := by decide +kernel
theorem dX10_verdict_33 : decode cX10_verdict 33 = .ok (.ireturn, 1) := by decide +kernel
theorem dX10_verdict_34 : decode cX10_verdict 34 = .ok (.aload_n 0, 1) := by decide +kernel
theorem dX10_verdict_35 : decode cX10_verdict 35 = .ok (.getfield 50, 3) := by decide +kernel
theorem dX10_verdict_38 : decode cX10_verdict 38 = .ok (.aload_n 0, 1) := by decide +kernel
theorem dX10_verdict_39 : decode cX10_verdict 39 = .ok (.getfield 43, 3) := by decide +kernel
theorem dX10_verdict_42 : decode cX10_verdict 42 = .ok (.iconst 1, 1) := by decide +kernel
theorem dX10_verdict_43 : decode cX10_verdict 43 = .ok (.invokevirtual 262, 3) := by decide +kernel
theorem dX10_verdict_46 : decode cX10_verdict 46 = .ok (.ifCond .le 7, 3) := by decide +kernel
theorem dX10_verdict_49 : decode cX10_verdict 49 = .ok (.iconst 1, 1) := by decide +kernel
theorem dX10_verdict_50 : decode cX10_verdict 50 = .ok (.goto 4, 3) := by decide +kernel
theorem dX10_verdict_53 : decode cX10_verdict 53 = .ok (.iconst 0, 1) := by decide +kernel
theorem dX10_verdict_54 : decode cX10_verdict 54 = .ok (.istore_n 1, 1) := by decide +kernel
theorem dX10_verdict_55 : decode cX10_verdict 55 = .ok (.aload_n 0, 1) := by decide +kernel
theorem dX10_verdict_56 : decode cX10_verdict 56 = .ok (.getfield 50, 3) := by decide +kernel
theorem dX10_verdict_59 : decode cX10_verdict 59 = .ok (.aload_n 0, 1) := by decide +kernel
theorem dX10_verdict_60 : decode cX10_verdict 60 = .ok (.getfield 43, 3) := by decide +kernel
theorem dX10_verdict_63 : decode cX10_verdict 63 = .ok (.iconst 2, 1) := by decide +kernel
theorem dX10_verdict_64 : decode cX10_verdict 64 = .ok (.invokevirtual 262, 3) := by decide +kernel
theorem dX10_verdict_67 : decode cX10_verdict 67 = .ok (.ifCond .le 7, 3) := by decide +kernel
theorem dX10_verdict_70 : decode cX10_verdict 70 = .ok (.iconst 1, 1) := by decide +kernel
theorem dX10_verdict_71 : decode cX10_verdict 71 = .ok (.goto 4, 3) := by decide +kernel
theorem dX10_verdict_74 : decode cX10_verdict 74 = .ok (.iconst 0, 1) := by decide +kernel
theorem dX10_verdict_75 : decode cX10_verdict 75 = .ok (.istore_n 2, 1) := by decide +kernel
theorem dX10_verdict_76 : decode cX10_verdict 76 = .ok (.iload_n 1, 1) := by decide +kernel
theorem dX10_verdict_77 : decode cX10_verdict 77 = .ok (.ifCond .eq 17, 3) := by decide +kernel
theorem dX10_verdict_80 : decode cX10_verdict 80 = .ok (.aload_n 0, 1) := by decide +kernel
theorem dX10_verdict_81 : decode cX10_verdict 81 = .ok (.iload_n 2, 1) := by decide +kernel
theorem dX10_verdict_82 : decode cX10_verdict 82 = .ok (.ifCond .eq 7, 3) := by decide +kernel
theorem dX10_verdict_85 : decode cX10_verdict 85 = .ok (.iconst 3, 1) := by decide +kernel
theorem dX10_verdict_86 : decode cX10_verdict 86 = .ok (.goto 4, 3) := by decide +kernel
theorem dX10_verdict_89 : decode cX10_verdict 89 = .ok (.iconst 1, 1) := by decide +kernel
theorem dX10_verdict_90 : decode cX10_verdict 90 = .ok (.invokevirtual 95, 3) := by decide +kernel
theorem dX10_verdict_93 : decode cX10_verdict 93 = .ok (.ireturn, 1) := by decide +kernel
theorem dX10_verdict_94 : decode cX10_verdict 94 = .ok (.aload_n 0, 1) := by decide +kernel
theorem dX10_verdict_95 : decode cX10_verdict 95 = .ok (.iload_n 2, 1) := by decide +kernel
theorem dX10_verdict_96 : decode cX10_verdict 96 = .ok (.ifCond .eq 7, 3) := by decide +kernel
theorem dX10_verdict_99 : decode cX10_verdict 99 = .ok (.iconst 2, 1) := by decide +kernel
theorem dX10_verdict_100 : decode cX10_verdict 100 = .ok (.goto 4, 3) := by decide +kernel
theorem dX10_verdict_103 : decode cX10_verdict 103 = .ok (.iconst 4, 1) := by decide +kernel
theorem dX10_verdict_104 : decode cX10_verdict 104 = .ok (.invokevirtual 95, 3) := by decide +kernel
theorem dX10_verdict_107 : decode cX10_verdict 107 = .ok (.ireturn, 1) := by decide +kernel
theorem dX0_areSame_0 : decode cX0_areSame 0 = .ok (.iload_n 3, 1) := by decide +kernel
theorem dX0_areSame_1 : decode cX0_areSame 1 = .ok (.bipush 64, 2) := by decide +kernel
theorem dX0_areSame_3 : decode cX0_areSame 3 = .ok (.imul, 1) := by decide +kernel
theorem dX0_areSame_4 : decode cX0_areSame 4 = .ok (.istore 4, 2) := by decide +kernel
theorem dX0_areSame_6 : decode cX0_areSame 6 = .ok (.aload_n 0, 1) := by decide +kernel
theorem dX0_areSame_7 : decode cX0_areSame 7 = .ok (.getfield 29, 3) := by decide +kernel
theorem dX0_areSame_10 : decode cX0_areSame 10 = .ok (.iload 4, 2) := by decide +kernel
theorem dX0_areSame_12 : decode cX0_areSame 12 = .ok (.aload_n 0, 1) := by decide +kernel
theorem dX0_areSame_13 : decode cX0_areSame 13 = .ok (.getfield 32, 3) := by decide +kernel
theorem dX0_areSame_16 : decode cX0_areSame 16 = .ok (.iload_n 1, 1) := by decide +kernel
theorem dX0_areSame_17 : decode cX0_areSame 17 = .ok (.iaload, 1) := by decide +kernel
theorem dX0_areSame_18 : decode cX0_areSame 18 = .ok (.iadd, 1) := by decide +kernel
theorem dX0_areSame_19 : decode cX0_areSame 19 = .ok (.iaload, 1) := by decide +kernel
theorem dX0_areSame_20 : decode cX0_areSame 20 = .ok (.aload_n 0, 1) := by decide +kernel
theorem dX0_areSame_21 : decode cX0_areSame 21 = .ok (.getfield 29, 3) := by decide +kernel
theorem dX0_areSame_24 : decode cX0_areSame 24 = .ok (.iload 4, 2) := by decide +kernel
theorem dX0_areSame_26 : decode cX0_areSame 26 = .ok (.aload_n 0, 1) := by decide +kernel
theorem dX0_areSame_27 : decode cX0_areSame 27 = .ok (.getfield 32, 3) := by decide +kernel
theorem dX0_areSame_30 : decode cX0_areSame 30 = .ok (.iload_n 2, 1) := by decide +kernel
theorem dX0_areSame_31 : decode cX0_areSame 31 = .ok (.iaload, 1) := by decide +kernel
theorem dX0_areSame_32 : decode cX0_areSame 32 = .ok (.iadd, 1) := by decide +kernel
theorem dX0_areSame_33 : decode cX0_areSame 33 = .ok (.iaload, 1) := by decide +kernel
theorem dX0_areSame_34 : decode cX0_areSame 34 = .ok (.if_icmp .ne 7, 3) := by decide +kernel
theorem dX0_areSame_37 : decode cX0_areSame 37 = .ok (.iconst 1, 1) := by decide +kernel
theorem dX0_areSame_38 : decode cX0_areSame 38 = .ok (.goto 4, 3) := by decide +kernel
theorem dX0_areSame_41 : decode cX0_areSame 41 = .ok (.iconst 0, 1) := by decide +kernel
theorem dX0_areSame_42 : decode cX0_areSame 42 = .ok (.ireturn, 1) := by decide +kernel
theorem dX0_mostAlike_0 : decode cX0_mostAlike 0 = .ok (.iconst 0, 1) := by decide +kernel
theorem dX0_mostAlike_1 : decode cX0_mostAlike 1 = .ok (.istore_n 3, 1) := by decide +kernel
theorem dX0_mostAlike_2 : decode cX0_mostAlike 2 = .ok (.iconst 0, 1) := by decide +kernel
theorem dX0_mostAlike_3 : decode cX0_mostAlike 3 = .ok (.istore 4, 2) := by decide +kernel
theorem dX0_mostAlike_5 : decode cX0_mostAlike 5 = .ok (.iload 4, 2) := by decide +kernel
theorem dX0_mostAlike_7 : decode cX0_mostAlike 7 = .ok (.aload_n 0, 1) := by decide +kernel
theorem dX0_mostAlike_8 : decode cX0_mostAlike 8 = .ok (.getfield 91, 3) := by decide +kernel
theorem dX0_mostAlike_11 : decode cX0_mostAlike 11 = .ok (.if_icmp .ge 64, 3) := by decide +kernel
theorem dX0_mostAlike_14 : decode cX0_mostAlike 14 = .ok (.iconst 0, 1) := by decide +kernel
theorem dX0_mostAlike_15 : decode cX0_mostAlike 15 = .ok (.istore 5, 2) := by decide +kernel
theorem dX0_mostAlike_17 : decode cX0_mostAlike 17 = .ok (.iconst 0, 1) := by decide +kernel
theorem dX0_mostAlike_18 : decode cX0_mostAlike 18 = .ok (.istore 6, 2) := by decide +kernel
theorem dX0_mostAlike_20 : decode cX0_mostAlike 20 = .ok (.iload 6, 2) := by decide +kernel
theorem dX0_mostAlike_22 : decode cX0_mostAlike 22 = .ok (.aload_n 0, 1) := by decide +kernel
theorem dX0_mostAlike_23 : decode cX0_mostAlike 23 = .ok (.getfield 91, 3) := by decide +kernel
theorem dX0_mostAlike_26 : decode cX0_mostAlike 26 = .ok (.if_icmp .ge 36, 3) := by decide +kernel
theorem dX0_mostAlike_29 : decode cX0_mostAlike 29 = .ok (.aload_n 0, 1) := by decide +kernel
theorem dX0_mostAlike_30 : decode cX0_mostAlike 30 = .ok (.iload 4, 2) := by decide +kernel
theorem dX0_mostAlike_32 : decode cX0_mostAlike 32 = .ok (.iload 6, 2) := by decide +kernel
theorem dX0_mostAlike_34 : decode cX0_mostAlike 34 = .ok (.iload_n 1, 1) := by decide +kernel
theorem dX0_mostAlike_35 : decode cX0_mostAlike 35 = .ok (.invokevirtual 104, 3) := by decide +kernel
theorem dX0_mostAlike_38 : decode cX0_mostAlike 38 = .ok (.ifCond .eq 18, 3) := by decide +kernel
theorem dX0_mostAlike_41 : decode cX0_mostAlike 41 = .ok (.aload_n 0, 1) := by decide +kernel
theorem dX0_mostAlike_42 : decode cX0_mostAlike 42 = .ok (.iload 4, 2) := by decide +kernel
theorem dX0_mostAlike_44 : decode cX0_mostAlike 44 = .ok (.iload 6, 2) := by decide +kernel
theorem dX0_mostAlike_46 : decode cX0_mostAlike 46 = .ok (.iload_n 2, 1) := by decide +kernel
theorem dX0_mostAlike_47 : decode cX0_mostAlike 47 = .ok (.invokevirtual 104, 3) := by decide +kernel
theorem dX0_mostAlike_50 : decode cX0_mostAlike 50 = .ok (.ifCond .eq 6, 3) := by decide +kernel
theorem dX0_mostAlike_53 : decode cX0_mostAlike 53 = .ok (.iinc 5 1, 3) := by decide +kernel
theorem dX0_mostAlike_56 : decode cX0_mostAlike 56 = .ok (.iinc 6 1, 3) := by decide +kernel
theorem dX0_mostAlike_59 : decode cX0_mostAlike 59 = .ok (.goto (-39), 3) := by decide +kernel
theorem dX0_mostAlike_62 : decode cX0_mostAlike 62 = .ok (.iload_n 3, 1) := by decide +kernel
theorem dX0_mostAlike_63 : decode cX0_mostAlike 63 = .ok (.iload 5, 2) := by decide +kernel
theorem dX0_mostAlike_65 : decode cX0_mostAlike 65 = .ok (.invokestatic 108, 3) := by decide +kernel
theorem dX0_mostAlike_68 : decode cX0_mostAlike 68 = .ok (.istore_n 3, 1) := by decide +kernel
theorem dX0_mostAlike_69 : decode cX0_mostAlike 69 = .ok (.iinc 4 1, 3) := by decide +kernel
theorem dX0_mostAlike_72 : decode cX0_mostAlike 72 = .ok (.goto (-67), 3) := by decide +kernel
theorem dX0_mostAlike_75 : decode cX0_mostAlike 75 = .ok (.iload_n 3, 1) := by decide +kernel
theorem dX0_mostAlike_76 : decode cX0_mostAlike 76 = .ok (.ireturn, 1) := by decide +kernel
theorem dX10_parts_0 : decode cX10_parts 0 = .ok (.aload_n 0, 1) := by decide +kernel
theorem dX10_parts_1 : decode cX10_parts 1 = .ok (.iload_n 1, 1) := by decide +kernel
theorem dX10_parts_2 : decode cX10_parts 2 = .ok (.invokevirtual 149, 3) := by decide +kernel
theorem dX10_parts_5 : decode cX10_parts 5 = .ok (.ifCond .ne 9, 3) := by decide +kernel
theorem dX10_parts_8 : decode cX10_parts 8 = .ok (.aload_n 0, 1) := by decide +kernel
theorem dX10_parts_9 : decode cX10_parts 9 = .ok (.iconst 1, 1) := by decide +kernel
theorem dX10_parts_10 : decode cX10_parts 10 = .ok (.invokevirtual 68, 3) := by decide +kernel
theorem dX10_parts_13 : decode cX10_parts 13 = .ok (.ireturn, 1) := by decide +kernel
theorem dX10_parts_14 : decode cX10_parts 14 = .ok (.aload_n 0, 1) := by decide +kernel
theorem dX10_parts_15 : decode cX10_parts 15 = .ok (.getfield 50, 3) := by decide +kernel
theorem dX10_parts_18 : decode cX10_parts 18 = .ok (.aload_n 0, 1) := by decide +kernel
theorem dX10_parts_19 : decode cX10_parts 19 = .ok (.getfield 43, 3) := by decide +kernel
theorem dX10_parts_22 : decode cX10_parts 22 = .ok (.iconst 3, 1) := by decide +kernel
theorem dX10_parts_23 : decode cX10_parts 23 = .ok (.invokevirtual 262, 3) := by decide +kernel
theorem dX10_parts_26 : decode cX10_parts 26 = .ok (.ifCond .ne 10, 3) := by decide +kernel
theorem dX10_parts_29 : decode cX10_parts 29 = .ok (.aload_n 0, 1) := by decide +kernel
theorem dX10_parts_30 : decode cX10_parts 30 = .ok (.bipush 6, 2) := by decide +kernel
theorem dX10_parts_32 : decode cX10_parts 32 = .ok (.invokevirtual 68, 3) := by decide +kernel
theorem dX10_parts_35 : decode cX10_parts 35 = .ok (.ireturn, 1) := by decide +kernel
theorem dX10_parts_36 : decode cX10_parts 36 = .ok (.aload_n 0, 1) := by decide +kernel
theorem dX10_parts_37 : decode cX10_parts 37 = .ok (.getfield 50, 3) := by decide +kernel
theorem dX10_parts_40 : decode cX10_parts 40 = .ok (.iload_n 1, 1) := by decide +kernel
theorem dX10_parts_41 : decode cX10_parts 41 = .ok (.iload_n 1, 1) := by decide +kernel
theorem dX10_parts_42 : decode cX10_parts 42 = .ok (.invokevirtual 88, 3) := by decide +kernel
theorem dX10_parts_45 : decode cX10_parts 45 = .ok (.aload_n 0, 1) := by decide +kernel
theorem dX10_parts_46 : decode cX10_parts 46 = .ok (.aload_n 0, 1) := by decide +kernel
theorem dX10_parts_47 : decode cX10_parts 47 = .ok (.getfield 50, 3) := by decide +kernel
theorem dX10_parts_50 : decode cX10_parts 50 = .ok (.iload_n 1, 1) := by decide +kernel
theorem dX10_parts_51 : decode cX10_parts 51 = .ok (.iload_n 1, 1) := by decide +kernel
theorem dX10_parts_52 : decode cX10_parts 52 = .ok (.invokevirtual 272, 3) := by decide +kernel
theorem dX10_parts_55 : decode cX10_parts 55 = .ok (.invokevirtual 95, 3) := by decide +kernel
theorem dX10_parts_58 : decode cX10_parts 58 = .ok (.ireturn, 1) := by decide +kernel
theorem dX0_bestSetting_0 : decode cX0_bestSetting 0 = .ok (.iconst 0, 1) := by decide +kernel
theorem dX0_bestSetting_1 : decode cX0_bestSetting 1 = .ok (.istore_n 1, 1) := by decide +kernel
theorem dX0_bestSetting_2 : decode cX0_bestSetting 2 = .ok (.aload_n 0, 1) := by decide +kernel
theorem dX0_bestSetting_3 : decode cX0_bestSetting 3 = .ok (.iconst 0, 1) := by decide +kernel
theorem dX0_bestSetting_4 : decode cX0_bestSetting 4 = .ok (.iconst 0, 1) := by decide +kernel
theorem dX0_bestSetting_5 : decode cX0_bestSetting 5 = .ok (.invokevirtual 113, 3) := by decide +kernel
theorem dX0_bestSetting_8 : decode cX0_bestSetting 8 = .ok (.istore_n 2, 1) := by decide +kernel
theorem dX0_bestSetting_9 : decode cX0_bestSetting 9 = .ok (.iconst 1, 1) := by decide +kernel
theorem dX0_bestSetting_10 : decode cX0_bestSetting 10 = .ok (.istore_n 3, 1) := by decide +kernel
theorem dX0_bestSetting_11 : decode cX0_bestSetting 11 = .ok (.iload_n 3, 1) := by decide +kernel
theorem dX0_bestSetting_12 : decode cX0_bestSetting 12 = .ok (.aload_n 0, 1) := by decide +kernel
theorem dX0_bestSetting_13 : decode cX0_bestSetting 13 = .ok (.getfield 35, 3) := by decide +kernel
theorem dX0_bestSetting_16 : decode cX0_bestSetting 16 = .ok (.invokevirtual 116, 3) := by decide +kernel
theorem dX0_bestSetting_19 : decode cX0_bestSetting 19 = .ok (.if_icmp .ge 28, 3) := by decide +kernel
theorem dX0_bestSetting_22 : decode cX0_bestSetting 22 = .ok (.aload_n 0, 1) := by decide +kernel
theorem dX0_bestSetting_23 : decode cX0_bestSetting 23 = .ok (.iload_n 3, 1) := by decide +kernel
theorem dX0_bestSetting_24 : decode cX0_bestSetting 24 = .ok (.iload_n 3, 1) := by decide +kernel
theorem dX0_bestSetting_25 : decode cX0_bestSetting 25 = .ok (.invokevirtual 113, 3) := by decide +kernel
theorem dX0_bestSetting_28 : decode cX0_bestSetting 28 = .ok (.istore 4, 2) := by decide +kernel
theorem dX0_bestSetting_30 : decode cX0_bestSetting 30 = .ok (.iload 4, 2) := by decide +kernel
theorem dX0_bestSetting_32 : decode cX0_bestSetting 32 = .ok (.iload_n 2, 1) := by decide +kernel
theorem dX0_bestSetting_33 : decode cX0_bestSetting 33 = .ok (.if_icmp .ge 8, 3) := by decide +kernel
theorem dX0_bestSetting_36 : decode cX0_bestSetting 36 = .ok (.iload 4, 2) := by decide +kernel
theorem dX0_bestSetting_38 : decode cX0_bestSetting 38 = .ok (.istore_n 2, 1) := by decide +kernel
theorem dX0_bestSetting_39 : decode cX0_bestSetting 39 = .ok (.iload_n 3, 1) := by decide +kernel
theorem dX0_bestSetting_40 : decode cX0_bestSetting 40 = .ok (.istore_n 1, 1) := by decide +kernel
theorem dX0_bestSetting_41 : decode cX0_bestSetting 41 = .ok (.iinc 3 1, 3) := by decide +kernel
theorem dX0_bestSetting_44 : decode cX0_bestSetting 44 = .ok (.goto (-33), 3) := by decide +kernel
theorem dX0_bestSetting_47 : decode cX0_bestSetting 47 = .ok (.iload_n 1, 1) := by decide +kernel
theorem dX0_bestSetting_48 : decode cX0_bestSetting 48 = .ok (.ireturn, 1) := by decide +kernel
theorem dX10_best_0 : decode cX10_best 0 = .ok (.aload_n 0, 1) := by decide +kernel
theorem dX10_best_1 : decode cX10_best 1 = .ok (.invokevirtual 170, 3) := by decide +kernel
theorem dX10_best_4 : decode cX10_best 4 = .ok (.ifCond .ne 9, 3) := by decide +kernel
theorem dX10_best_7 : decode cX10_best 7 = .ok (.aload_n 0, 1) := by decide +kernel
theorem dX10_best_8 : decode cX10_best 8 = .ok (.iconst 1, 1) := by decide +kernel
theorem dX10_best_9 : decode cX10_best 9 = .ok (.invokevirtual 68, 3) := by decide +kernel
theorem dX10_best_12 : decode cX10_best 12 = .ok (.ireturn, 1) := by decide +kernel
theorem dX10_best_13 : decode cX10_best 13 = .ok (.aload_n 0, 1) := by decide +kernel
theorem dX10_best_14 : decode cX10_best 14 = .ok (.getfield 50, 3) := by decide +kernel
theorem dX10_best_17 : decode cX10_best 17 = .ok (.aload_n 0, 1) := by decide +kernel
theorem dX10_best_18 : decode cX10_best 18 = .ok (.getfield 43, 3) := by decide +kernel
theorem dX10_best_21 : decode cX10_best 21 = .ok (.iconst 3, 1) := by decide +kernel
theorem dX10_best_22 : decode cX10_best 22 = .ok (.invokevirtual 262, 3) := by decide +kernel
theorem dX10_best_25 : decode cX10_best 25 = .ok (.ifCond .ne 10, 3) := by decide +kernel
theorem dX10_best_28 : decode cX10_best 28 = .ok (.aload_n 0, 1) := by decide +kernel
theorem dX10_best_29 : decode cX10_best 29 = .ok (.bipush 6, 2) := by decide +kernel
theorem dX10_best_31 : decode cX10_best 31 = .ok (.invokevirtual 68, 3) := by decide +kernel
theorem dX10_best_34 : decode cX10_best 34 = .ok (.ireturn, 1) := by decide +kernel
theorem dX10_best_35 : decode cX10_best 35 = .ok (.aload_n 0, 1) := by decide +kernel
theorem dX10_best_36 : decode cX10_best 36 = .ok (.getfield 50, 3) := by decide +kernel
theorem dX10_best_39 : decode cX10_best 39 = .ok (.iconst 0, 1) := by decide +kernel
theorem dX10_best_40 : decode cX10_best 40 = .ok (.aload_n 0, 1) := by decide +kernel
theorem dX10_best_41 : decode cX10_best 41 = .ok (.getfield 19, 3) := by decide +kernel
theorem dX10_best_44 : decode cX10_best 44 = .ok (.invokevirtual 275, 3) := by decide +kernel
theorem dX10_best_47 : decode cX10_best 47 = .ok (.iconst 1, 1) := by decide +kernel
theorem dX10_best_48 : decode cX10_best 48 = .ok (.isub, 1) := by decide +kernel
theorem dX10_best_49 : decode cX10_best 49 = .ok (.invokevirtual 88, 3) := by decide +kernel
theorem dX10_best_52 : decode cX10_best 52 = .ok (.aload_n 0, 1) := by decide +kernel
theorem dX10_best_53 : decode cX10_best 53 = .ok (.aload_n 0, 1) := by decide +kernel
theorem dX10_best_54 : decode cX10_best 54 = .ok (.getfield 50, 3) := by decide +kernel
theorem dX10_best_57 : decode cX10_best 57 = .ok (.invokevirtual 279, 3) := by decide +kernel
theorem dX10_best_60 : decode cX10_best 60 = .ok (.invokevirtual 95, 3) := by decide +kernel
theorem dX10_best_63 : decode cX10_best 63 = .ok (.ireturn, 1) := by decide +kernel
theorem dX10_told_0 : decode cX10_told 0 = .ok (.aload_n 0, 1) := by decide +kernel
theorem dX10_told_1 : decode cX10_told 1 = .ok (.iload_n 1, 1) := by decide +kernel
theorem dX10_told_2 : decode cX10_told 2 = .ok (.invokevirtual 149, 3) := by decide +kernel
theorem dX10_told_5 : decode cX10_told 5 = .ok (.ifCond .eq 11, 3) := by decide +kernel
theorem dX10_told_8 : decode cX10_told 8 = .ok (.aload_n 0, 1) := by decide +kernel
theorem dX10_told_9 : decode cX10_told 9 = .ok (.iload_n 2, 1) := by decide +kernel
theorem dX10_told_10 : decode cX10_told 10 = .ok (.invokevirtual 149, 3) := by decide +kernel
theorem dX10_told_13 : decode cX10_told 13 = .ok (.ifCond .ne 9, 3) := by decide +kernel
theorem dX10_told_16 : decode cX10_told 16 = .ok (.aload_n 0, 1) := by decide +kernel
theorem dX10_told_17 : decode cX10_told 17 = .ok (.iconst 1, 1) := by decide +kernel
theorem dX10_told_18 : decode cX10_told 18 = .ok (.invokevirtual 68, 3) := by decide +kernel
theorem dX10_told_21 : decode cX10_told 21 = .ok (.ireturn, 1) := by decide +kernel
theorem dX10_told_22 : decode cX10_told 22 = .ok (.aload_n 0, 1) := by decide +kernel
theorem dX10_told_23 : decode cX10_told 23 = .ok (.getfield 50, 3) := by decide +kernel
theorem dX10_told_26 : decode cX10_told 26 = .ok (.aload_n 0, 1) := by decide +kernel
theorem dX10_told_27 : decode cX10_told 27 = .ok (.getfield 43, 3) := by decide +kernel
theorem dX10_told_30 : decode cX10_told 30 = .ok (.iconst 3, 1) := by decide +kernel
theorem dX10_told_31 : decode cX10_told 31 = .ok (.invokevirtual 262, 3) := by decide +kernel
theorem dX10_told_34 : decode cX10_told 34 = .ok (.ifCond .ne 10, 3) := by decide +kernel
theorem dX10_told_37 : decode cX10_told 37 = .ok (.aload_n 0, 1) := by decide +kernel
theorem dX10_told_38 : decode cX10_told 38 = .ok (.bipush 6, 2) := by decide +kernel
theorem dX10_told_40 : decode cX10_told 40 = .ok (.invokevirtual 68, 3) := by decide +kernel
theorem dX10_told_43 : decode cX10_told 43 = .ok (.ireturn, 1) := by decide +kernel
theorem dX10_told_44 : decode cX10_told 44 = .ok (.aload_n 0, 1) := by decide +kernel
theorem dX10_told_45 : decode cX10_told 45 = .ok (.getfield 50, 3) := by decide +kernel
theorem dX10_told_48 : decode cX10_told 48 = .ok (.iload_n 1, 1) := by decide +kernel
theorem dX10_told_49 : decode cX10_told 49 = .ok (.iload_n 1, 1) := by decide +kernel
theorem dX10_told_50 : decode cX10_told 50 = .ok (.invokevirtual 88, 3) := by decide +kernel
theorem dX10_told_53 : decode cX10_told 53 = .ok (.aload_n 0, 1) := by decide +kernel
theorem dX10_told_54 : decode cX10_told 54 = .ok (.getfield 50, 3) := by decide +kernel
theorem dX10_told_57 : decode cX10_told 57 = .ok (.iload_n 2, 1) := by decide +kernel
theorem dX10_told_58 : decode cX10_told 58 = .ok (.iload_n 2, 1) := by decide +kernel
theorem dX10_told_59 : decode cX10_told 59 = .ok (.invokevirtual 88, 3) := by decide +kernel
theorem dX10_told_62 : decode cX10_told 62 = .ok (.aload_n 0, 1) := by decide +kernel
theorem dX10_told_63 : decode cX10_told 63 = .ok (.aload_n 0, 1) := by decide +kernel
theorem dX10_told_64 : decode cX10_told 64 = .ok (.getfield 50, 3) := by decide +kernel
theorem dX10_told_67 : decode cX10_told 67 = .ok (.iload_n 1, 1) := by decide +kernel
theorem dX10_told_68 : decode cX10_told 68 = .ok (.iload_n 2, 1) := by decide +kernel
theorem dX10_told_69 : decode cX10_told 69 = .ok (.invokevirtual 272, 3) := by decide +kernel
theorem dX10_told_72 : decode cX10_told 72 = .ok (.invokevirtual 95, 3) := by decide +kernel
theorem dX10_told_75 : decode cX10_told 75 = .ok (.ireturn, 1) := by decide +kernel
theorem dX0_areAlike_0 : decode cX0_areAlike 0 = .ok (.iconst 0, 1) := by decide +kernel
theorem dX0_areAlike_1 : decode cX0_areAlike 1 = .ok (.istore_n 3, 1) := by decide +kernel
theorem dX0_areAlike_2 : decode cX0_areAlike 2 = .ok (.iload_n 3, 1) := by decide +kernel
theorem dX0_areAlike_3 : decode cX0_areAlike 3 = .ok (.aload_n 0, 1) := by decide +kernel
theorem dX0_areAlike_4 : decode cX0_areAlike 4 = .ok (.getfield 35, 3) := by decide +kernel
theorem dX0_areAlike_7 : decode cX0_areAlike 7 = .ok (.invokevirtual 116, 3) := by decide +kernel
theorem dX0_areAlike_10 : decode cX0_areAlike 10 = .ok (.if_icmp .ge 21, 3) := by decide +kernel
theorem dX0_areAlike_13 : decode cX0_areAlike 13 = .ok (.aload_n 0, 1) := by decide +kernel
theorem dX0_areAlike_14 : decode cX0_areAlike 14 = .ok (.iload_n 1, 1) := by decide +kernel
theorem dX0_areAlike_15 : decode cX0_areAlike 15 = .ok (.iload_n 2, 1) := by decide +kernel
theorem dX0_areAlike_16 : decode cX0_areAlike 16 = .ok (.iload_n 3, 1) := by decide +kernel
theorem dX0_areAlike_17 : decode cX0_areAlike 17 = .ok (.invokevirtual 104, 3) := by decide +kernel
theorem dX0_areAlike_20 : decode cX0_areAlike 20 = .ok (.ifCond .ne 5, 3) := by decide +kernel
theorem dX0_areAlike_23 : decode cX0_areAlike 23 = .ok (.iconst 0, 1) := by decide +kernel
theorem dX0_areAlike_24 : decode cX0_areAlike 24 = .ok (.ireturn, 1) := by decide +kernel
theorem dX0_areAlike_25 : decode cX0_areAlike 25 = .ok (.iinc 3 1, 3) := by decide +kernel
theorem dX0_areAlike_28 : decode cX0_areAlike 28 = .ok (.goto (-26), 3) := by decide +kernel
theorem dX0_areAlike_31 : decode cX0_areAlike 31 = .ok (.iconst 1, 1) := by decide +kernel
theorem dX0_areAlike_32 : decode cX0_areAlike 32 = .ok (.ireturn, 1) := by decide +kernel
theorem dX10_alike_0 : decode cX10_alike 0 = .ok (.aload_n 0, 1) := by decide +kernel
theorem dX10_alike_1 : decode cX10_alike 1 = .ok (.getfield 50, 3) := by decide +kernel
theorem dX10_alike_4 : decode cX10_alike 4 = .ok (.aload_n 0, 1) := by decide +kernel
theorem dX10_alike_5 : decode cX10_alike 5 = .ok (.getfield 43, 3) := by decide +kernel
theorem dX10_alike_8 : decode cX10_alike 8 = .ok (.iconst 3, 1) := by decide +kernel
theorem dX10_alike_9 : decode cX10_alike 9 = .ok (.invokevirtual 262, 3) := by decide +kernel
theorem dX10_alike_12 : decode cX10_alike 12 = .ok (.istore_n 3, 1) := by decide +kernel
theorem dX10_alike_13 : decode cX10_alike 13 = .ok (.iload_n 1, 1) := by decide +kernel
theorem dX10_alike_14 : decode cX10_alike 14 = .ok (.iload_n 3, 1) := by decide +kernel
theorem dX10_alike_15 : decode cX10_alike 15 = .ok (.invokestatic 121, 3) := by decide +kernel
theorem dX10_alike_18 : decode cX10_alike 18 = .ok (.ifCond .eq 16, 3) := by decide +kernel
theorem dX10_alike_21 : decode cX10_alike 21 = .ok (.iload_n 2, 1) := by decide +kernel
theorem dX10_alike_22 : decode cX10_alike 22 = .ok (.iload_n 3, 1) := by decide +kernel
theorem dX10_alike_23 : decode cX10_alike 23 = .ok (.invokestatic 121, 3) := by decide +kernel
theorem dX10_alike_26 : decode cX10_alike 26 = .ok (.ifCond .eq 8, 3) := by decide +kernel
theorem dX10_alike_29 : decode cX10_alike 29 = .ok (.iload_n 1, 1) := by decide +kernel
theorem dX10_alike_30 : decode cX10_alike 30 = .ok (.iload_n 2, 1) := by decide +kernel
theorem dX10_alike_31 : decode cX10_alike 31 = .ok (.if_icmp .ne 9, 3) := by decide +kernel
theorem dX10_alike_34 : decode cX10_alike 34 = .ok (.aload_n 0, 1) := by decide +kernel
theorem dX10_alike_35 : decode cX10_alike 35 = .ok (.iconst 1, 1) := by decide +kernel
theorem dX10_alike_36 : decode cX10_alike 36 = .ok (.invokevirtual 68, 3) := by decide +kernel
theorem dX10_alike_39 : decode cX10_alike 39 = .ok (.ireturn, 1) := by decide +kernel
theorem dX10_alike_40 : decode cX10_alike 40 = .ok (.aload_n 0, 1) := by decide +kernel
theorem dX10_alike_41 : decode cX10_alike 41 = .ok (.getfield 50, 3) := by decide +kernel
theorem dX10_alike_44 : decode cX10_alike 44 = .ok (.iconst 0, 1) := by decide +kernel
theorem dX10_alike_45 : decode cX10_alike 45 = .ok (.aload_n 0, 1) := by decide +kernel
theorem dX10_alike_46 : decode cX10_alike 46 = .ok (.getfield 19, 3) := by decide +kernel
theorem dX10_alike_49 : decode cX10_alike 49 = .ok (.invokevirtual 275, 3) := by decide +kernel
theorem dX10_alike_52 : decode cX10_alike 52 = .ok (.iconst 1, 1) := by decide +kernel
theorem dX10_alike_53 : decode cX10_alike 53 = .ok (.isub, 1) := by decide +kernel
theorem dX10_alike_54 : decode cX10_alike 54 = .ok (.invokevirtual 88, 3) := by decide +kernel
theorem dX10_alike_57 : decode cX10_alike 57 = .ok (.aload_n 0, 1) := by decide +kernel
theorem dX10_alike_58 : decode cX10_alike 58 = .ok (.aload_n 0, 1) := by decide +kernel
theorem dX10_alike_59 : decode cX10_alike 59 = .ok (.getfield 50, 3) := by decide +kernel
theorem dX10_alike_62 : decode cX10_alike 62 = .ok (.iload_n 1, 1) := by decide +kernel
theorem dX10_alike_63 : decode cX10_alike 63 = .ok (.iload_n 2, 1) := by decide +kernel
theorem dX10_alike_64 : decode cX10_alike 64 = .ok (.invokevirtual 282, 3) := by decide +kernel
theorem dX10_alike_67 : decode cX10_alike 67 = .ok (.invokestatic 132, 3) := by decide +kernel
theorem dX10_alike_70 : decode cX10_alike 70 = .ok (.invokevirtual 95, 3) := by decide +kernel
theorem dX10_alike_73 : decode cX10_alike 73 = .ok (.ireturn, 1) := by decide +kernel
theorem dX0_alikePairs_0 : decode cX0_alikePairs 0 = .ok (.iconst 0, 1) := by decide +kernel
theorem dX0_alikePairs_1 : decode cX0_alikePairs 1 = .ok (.istore_n 1, 1) := by decide +kernel
theorem dX0_alikePairs_2 : decode cX0_alikePairs 2 = .ok (.iconst 0, 1) := by decide +kernel
theorem dX0_alikePairs_3 : decode cX0_alikePairs 3 = .ok (.istore_n 2, 1) := by decide +kernel
theorem dX0_alikePairs_4 : decode cX0_alikePairs 4 = .ok (.iload_n 2, 1) := by decide +kernel
theorem dX0_alikePairs_5 : decode cX0_alikePairs 5 = .ok (.aload_n 0, 1) := by decide +kernel
theorem dX0_alikePairs_6 : decode cX0_alikePairs 6 = .ok (.getfield 91, 3) := by decide +kernel
theorem dX0_alikePairs_9 : decode cX0_alikePairs 9 = .ok (.if_icmp .ge 39, 3) := by decide +kernel
theorem dX0_alikePairs_12 : decode cX0_alikePairs 12 = .ok (.iload_n 2, 1) := by decide +kernel
theorem dX0_alikePairs_13 : decode cX0_alikePairs 13 = .ok (.iconst 1, 1) := by decide +kernel
theorem dX0_alikePairs_14 : decode cX0_alikePairs 14 = .ok (.iadd, 1) := by decide +kernel
theorem dX0_alikePairs_15 : decode cX0_alikePairs 15 = .ok (.istore_n 3, 1) := by decide +kernel
theorem dX0_alikePairs_16 : decode cX0_alikePairs 16 = .ok (.iload_n 3, 1) := by decide +kernel
theorem dX0_alikePairs_17 : decode cX0_alikePairs 17 = .ok (.aload_n 0, 1) := by decide +kernel
theorem dX0_alikePairs_18 : decode cX0_alikePairs 18 = .ok (.getfield 91, 3) := by decide +kernel
theorem dX0_alikePairs_21 : decode cX0_alikePairs 21 = .ok (.if_icmp .ge 21, 3) := by decide +kernel
theorem dX0_alikePairs_24 : decode cX0_alikePairs 24 = .ok (.aload_n 0, 1) := by decide +kernel
theorem dX0_alikePairs_25 : decode cX0_alikePairs 25 = .ok (.iload_n 2, 1) := by decide +kernel
theorem dX0_alikePairs_26 : decode cX0_alikePairs 26 = .ok (.iload_n 3, 1) := by decide +kernel
theorem dX0_alikePairs_27 : decode cX0_alikePairs 27 = .ok (.invokevirtual 120, 3) := by decide +kernel
theorem dX0_alikePairs_30 : decode cX0_alikePairs 30 = .ok (.ifCond .eq 6, 3) := by decide +kernel
theorem dX0_alikePairs_33 : decode cX0_alikePairs 33 = .ok (.iinc 1 1, 3) := by decide +kernel
theorem dX0_alikePairs_36 : decode cX0_alikePairs 36 = .ok (.iinc 3 1, 3) := by decide +kernel
theorem dX0_alikePairs_39 : decode cX0_alikePairs 39 = .ok (.goto (-23), 3) := by decide +kernel
theorem dX0_alikePairs_42 : decode cX0_alikePairs 42 = .ok (.iinc 2 1, 3) := by decide +kernel
theorem dX0_alikePairs_45 : decode cX0_alikePairs 45 = .ok (.goto (-41), 3) := by decide +kernel
theorem dX0_alikePairs_48 : decode cX0_alikePairs 48 = .ok (.iload_n 1, 1) := by decide +kernel
theorem dX0_alikePairs_49 : decode cX0_alikePairs 49 = .ok (.ireturn, 1) := by decide +kernel
theorem dX10_never_0 : decode cX10_never 0 = .ok (.aload_n 0, 1) := by decide +kernel
theorem dX10_never_1 : decode cX10_never 1 = .ok (.invokevirtual 170, 3) := by decide +kernel
theorem dX10_never_4 : decode cX10_never 4 = .ok (.ifCond .ne 9, 3) := by decide +kernel
theorem dX10_never_7 : decode cX10_never 7 = .ok (.aload_n 0, 1) := by decide +kernel
theorem dX10_never_8 : decode cX10_never 8 = .ok (.iconst 1, 1) := by decide +kernel
theorem dX10_never_9 : decode cX10_never 9 = .ok (.invokevirtual 68, 3) := by decide +kernel
theorem dX10_never_12 : decode cX10_never 12 = .ok (.ireturn, 1) := by decide +kernel
theorem dX10_never_13 : decode cX10_never 13 = .ok (.aload_n 0, 1) := by decide +kernel
theorem dX10_never_14 : decode cX10_never 14 = .ok (.getfield 50, 3) := by decide +kernel
theorem dX10_never_17 : decode cX10_never 17 = .ok (.aload_n 0, 1) := by decide +kernel
theorem dX10_never_18 : decode cX10_never 18 = .ok (.getfield 43, 3) := by decide +kernel
theorem dX10_never_21 : decode cX10_never 21 = .ok (.iconst 3, 1) := by decide +kernel
theorem dX10_never_22 : decode cX10_never 22 = .ok (.invokevirtual 262, 3) := by decide +kernel
theorem dX10_never_25 : decode cX10_never 25 = .ok (.pop, 1) := by decide +kernel
theorem dX10_never_26 : decode cX10_never 26 = .ok (.aload_n 0, 1) := by decide +kernel
theorem dX10_never_27 : decode cX10_never 27 = .ok (.getfield 50, 3) := by decide +kernel
theorem dX10_never_30 : decode cX10_never 30 = .ok (.iconst 0, 1) := by decide +kernel
theorem dX10_never_31 : decode cX10_never 31 = .ok (.aload_n 0, 1) := by decide +kernel
theorem dX10_never_32 : decode cX10_never 32 = .ok (.getfield 19, 3) := by decide +kernel
theorem dX10_never_35 : decode cX10_never 35 = .ok (.invokevirtual 275, 3) := by decide +kernel
theorem dX10_never_38 : decode cX10_never 38 = .ok (.iconst 1, 1) := by decide +kernel
theorem dX10_never_39 : decode cX10_never 39 = .ok (.isub, 1) := by decide +kernel
theorem dX10_never_40 : decode cX10_never 40 = .ok (.invokevirtual 88, 3) := by decide +kernel
theorem dX10_never_43 : decode cX10_never 43 = .ok (.aload_n 0, 1) := by decide +kernel
theorem dX10_never_44 : decode cX10_never 44 = .ok (.aload_n 0, 1) := by decide +kernel
theorem dX10_never_45 : decode cX10_never 45 = .ok (.getfield 50, 3) := by decide +kernel
theorem dX10_never_48 : decode cX10_never 48 = .ok (.invokevirtual 285, 3) := by decide +kernel
theorem dX10_never_51 : decode cX10_never 51 = .ok (.invokevirtual 95, 3) := by decide +kernel
theorem dX10_never_54 : decode cX10_never 54 = .ok (.ireturn, 1) := by decide +kernel
theorem dJ6_bitCount_0f7a4_0 : decode cJ6_bitCount_0f7a4 0 = .ok (.iload_n 0, 1) := by decide +kernel
theorem dJ6_bitCount_0f7a4_1 : decode cJ6_bitCount_0f7a4 1 = .ok (.iload_n 0, 1) := by decide +kernel
theorem dJ6_bitCount_0f7a4_2 : decode cJ6_bitCount_0f7a4 2 = .ok (.iconst 1, 1) := by decide +kernel
theorem dJ6_bitCount_0f7a4_3 : decode cJ6_bitCount_0f7a4 3 = .ok (.iushr, 1) := by decide +kernel
theorem dJ6_bitCount_0f7a4_4 : decode cJ6_bitCount_0f7a4 4 = .ok (.ldc_w 265, 3) := by decide +kernel
theorem dJ6_bitCount_0f7a4_7 : decode cJ6_bitCount_0f7a4 7 = .ok (.iand, 1) := by decide +kernel
theorem dJ6_bitCount_0f7a4_8 : decode cJ6_bitCount_0f7a4 8 = .ok (.isub, 1) := by decide +kernel
theorem dJ6_bitCount_0f7a4_9 : decode cJ6_bitCount_0f7a4 9 = .ok (.istore_n 0, 1) := by decide +kernel
theorem dJ6_bitCount_0f7a4_10 : decode cJ6_bitCount_0f7a4 10 = .ok (.iload_n 0, 1) := by decide +kernel
theorem dJ6_bitCount_0f7a4_11 : decode cJ6_bitCount_0f7a4 11 = .ok (.ldc_w 266, 3) := by decide +kernel
theorem dJ6_bitCount_0f7a4_14 : decode cJ6_bitCount_0f7a4 14 = .ok (.iand, 1) := by decide +kernel
theorem dJ6_bitCount_0f7a4_15 : decode cJ6_bitCount_0f7a4 15 = .ok (.iload_n 0, 1) := by decide +kernel
theorem dJ6_bitCount_0f7a4_16 : decode cJ6_bitCount_0f7a4 16 = .ok (.iconst 2, 1) := by decide +kernel
theorem dJ6_bitCount_0f7a4_17 : decode cJ6_bitCount_0f7a4 17 = .ok (.iushr, 1) := by decide +kernel
theorem dJ6_bitCount_0f7a4_18 : decode cJ6_bitCount_0f7a4 18 = .ok (.ldc_w 266, 3) := by decide +kernel
theorem dJ6_bitCount_0f7a4_21 : decode cJ6_bitCount_0f7a4 21 = .ok (.iand, 1) := by decide +kernel
theorem dJ6_bitCount_0f7a4_22 : decode cJ6_bitCount_0f7a4 22 = .ok (.iadd, 1) := by decide +kernel
theorem dJ6_bitCount_0f7a4_23 : decode cJ6_bitCount_0f7a4 23 = .ok (.istore_n 0, 1) := by decide +kernel
theorem dJ6_bitCount_0f7a4_24 : decode cJ6_bitCount_0f7a4 24 = .ok (.iload_n 0, 1) := by decide +kernel
theorem dJ6_bitCount_0f7a4_25 : decode cJ6_bitCount_0f7a4 25 = .ok (.iload_n 0, 1) := by decide +kernel
theorem dJ6_bitCount_0f7a4_26 : decode cJ6_bitCount_0f7a4 26 = .ok (.iconst 4, 1) := by decide +kernel
theorem dJ6_bitCount_0f7a4_27 : decode cJ6_bitCount_0f7a4 27 = .ok (.iushr, 1) := by decide +kernel
theorem dJ6_bitCount_0f7a4_28 : decode cJ6_bitCount_0f7a4 28 = .ok (.iadd, 1) := by decide +kernel
theorem dJ6_bitCount_0f7a4_29 : decode cJ6_bitCount_0f7a4 29 = .ok (.ldc_w 267, 3) := by decide +kernel
theorem dJ6_bitCount_0f7a4_32 : decode cJ6_bitCount_0f7a4 32 = .ok (.iand, 1) := by decide +kernel
theorem dJ6_bitCount_0f7a4_33 : decode cJ6_bitCount_0f7a4 33 = .ok (.istore_n 0, 1) := by decide +kernel
theorem dJ6_bitCount_0f7a4_34 : decode cJ6_bitCount_0f7a4 34 = .ok (.iload_n 0, 1) := by decide +kernel
theorem dJ6_bitCount_0f7a4_35 : decode cJ6_bitCount_0f7a4 35 = .ok (.iload_n 0, 1) := by decide +kernel
theorem dJ6_bitCount_0f7a4_36 : decode cJ6_bitCount_0f7a4 36 = .ok (.bipush 8, 2) := by decide +kernel
theorem dJ6_bitCount_0f7a4_38 : decode cJ6_bitCount_0f7a4 38 = .ok (.iushr, 1) := by decide +kernel
theorem dJ6_bitCount_0f7a4_39 : decode cJ6_bitCount_0f7a4 39 = .ok (.iadd, 1) := by decide +kernel
theorem dJ6_bitCount_0f7a4_40 : decode cJ6_bitCount_0f7a4 40 = .ok (.istore_n 0, 1) := by decide +kernel
theorem dJ6_bitCount_0f7a4_41 : decode cJ6_bitCount_0f7a4 41 = .ok (.iload_n 0, 1) := by decide +kernel
theorem dJ6_bitCount_0f7a4_42 : decode cJ6_bitCount_0f7a4 42 = .ok (.iload_n 0, 1) := by decide +kernel
theorem dJ6_bitCount_0f7a4_43 : decode cJ6_bitCount_0f7a4 43 = .ok (.bipush 16, 2) := by decide +kernel
theorem dJ6_bitCount_0f7a4_45 : decode cJ6_bitCount_0f7a4 45 = .ok (.iushr, 1) := by decide +kernel
theorem dJ6_bitCount_0f7a4_46 : decode cJ6_bitCount_0f7a4 46 = .ok (.iadd, 1) := by decide +kernel
theorem dJ6_bitCount_0f7a4_47 : decode cJ6_bitCount_0f7a4 47 = .ok (.istore_n 0, 1) := by decide +kernel
theorem dJ6_bitCount_0f7a4_48 : decode cJ6_bitCount_0f7a4 48 = .ok (.iload_n 0, 1) := by decide +kernel
theorem dJ6_bitCount_0f7a4_49 : decode cJ6_bitCount_0f7a4 49 = .ok (.bipush 63, 2) := by decide +kernel
theorem dJ6_bitCount_0f7a4_51 : decode cJ6_bitCount_0f7a4 51 = .ok (.iand, 1) := by decide +kernel
theorem dJ6_bitCount_0f7a4_52 : decode cJ6_bitCount_0f7a4 52 = .ok (.ireturn, 1) := by decide +kernel
theorem dX1_reachedFrom_0 : decode cX1_reachedFrom 0 = .ok (.iload_n 1, 1) := by decide +kernel
theorem dX1_reachedFrom_1 : decode cX1_reachedFrom 1 = .ok (.istore_n 3, 1) := by decide +kernel
theorem dX1_reachedFrom_2 : decode cX1_reachedFrom 2 = .ok (.iconst 0, 1) := by decide +kernel
theorem dX1_reachedFrom_3 : decode cX1_reachedFrom 3 = .ok (.istore 4, 2) := by decide +kernel
theorem dX1_reachedFrom_5 : decode cX1_reachedFrom 5 = .ok (.iload 4, 2) := by decide +kernel
theorem dX1_reachedFrom_7 : decode cX1_reachedFrom 7 = .ok (.aload_n 0, 1) := by decide +kernel
theorem dX1_reachedFrom_8 : decode cX1_reachedFrom 8 = .ok (.getfield 38, 3) := by decide +kernel
theorem dX1_reachedFrom_11 : decode cX1_reachedFrom 11 = .ok (.if_icmp .ge 70, 3) := by decide +kernel
theorem dX1_reachedFrom_14 : decode cX1_reachedFrom 14 = .ok (.iconst 0, 1) := by decide +kernel
theorem dX1_reachedFrom_15 : decode cX1_reachedFrom 15 = .ok (.istore 5, 2) := by decide +kernel
theorem dX1_reachedFrom_17 : decode cX1_reachedFrom 17 = .ok (.iload 5, 2) := by decide +kernel
theorem dX1_reachedFrom_19 : decode cX1_reachedFrom 19 = .ok (.aload_n 0, 1) := by decide +kernel
theorem dX1_reachedFrom_20 : decode cX1_reachedFrom 20 = .ok (.getfield 42, 3) := by decide +kernel
theorem dX1_reachedFrom_23 : decode cX1_reachedFrom 23 = .ok (.if_icmp .ge 52, 3) := by decide +kernel
theorem dX1_reachedFrom_26 : decode cX1_reachedFrom 26 = .ok (.iconst 1, 1) := by decide +kernel
theorem dX1_reachedFrom_27 : decode cX1_reachedFrom 27 = .ok (.aload_n 0, 1) := by decide +kernel
theorem dX1_reachedFrom_28 : decode cX1_reachedFrom 28 = .ok (.getfield 19, 3) := by decide +kernel
theorem dX1_reachedFrom_31 : decode cX1_reachedFrom 31 = .ok (.iload 5, 2) := by decide +kernel
theorem dX1_reachedFrom_33 : decode cX1_reachedFrom 33 = .ok (.iaload, 1) := by decide +kernel
theorem dX1_reachedFrom_34 : decode cX1_reachedFrom 34 = .ok (.ishl, 1) := by decide +kernel
theorem dX1_reachedFrom_35 : decode cX1_reachedFrom 35 = .ok (.iconst 1, 1) := by decide +kernel
theorem dX1_reachedFrom_36 : decode cX1_reachedFrom 36 = .ok (.aload_n 0, 1) := by decide +kernel
theorem dX1_reachedFrom_37 : decode cX1_reachedFrom 37 = .ok (.getfield 22, 3) := by decide +kernel
theorem dX1_reachedFrom_40 : decode cX1_reachedFrom 40 = .ok (.iload 5, 2) := by decide +kernel
theorem dX1_reachedFrom_42 : decode cX1_reachedFrom 42 = .ok (.iaload, 1) := by decide +kernel
theorem dX1_reachedFrom_43 : decode cX1_reachedFrom 43 = .ok (.ishl, 1) := by decide +kernel
theorem dX1_reachedFrom_44 : decode cX1_reachedFrom 44 = .ok (.ior, 1) := by decide +kernel
theorem dX1_reachedFrom_45 : decode cX1_reachedFrom 45 = .ok (.istore 6, 2) := by decide +kernel
theorem dX1_reachedFrom_47 : decode cX1_reachedFrom 47 = .ok (.iload_n 2, 1) := by decide +kernel
theorem dX1_reachedFrom_48 : decode cX1_reachedFrom 48 = .ok (.i2l, 1) := by decide +kernel
theorem dX1_reachedFrom_49 : decode cX1_reachedFrom 49 = .ok (.iload 5, 2) := by decide +kernel
theorem dX1_reachedFrom_51 : decode cX1_reachedFrom 51 = .ok (.invokestatic 45, 3) := by decide +kernel
theorem dX1_reachedFrom_54 : decode cX1_reachedFrom 54 = .ok (.ifCond .ne 15, 3) := by decide +kernel
theorem dX1_reachedFrom_57 : decode cX1_reachedFrom 57 = .ok (.iload_n 3, 1) := by decide +kernel
theorem dX1_reachedFrom_58 : decode cX1_reachedFrom 58 = .ok (.iload 6, 2) := by decide +kernel
theorem dX1_reachedFrom_60 : decode cX1_reachedFrom 60 = .ok (.iand, 1) := by decide +kernel
theorem dX1_reachedFrom_61 : decode cX1_reachedFrom 61 = .ok (.ifCond .eq 8, 3) := by decide +kernel
theorem dX1_reachedFrom_64 : decode cX1_reachedFrom 64 = .ok (.iload_n 3, 1) := by decide +kernel
theorem dX1_reachedFrom_65 : decode cX1_reachedFrom 65 = .ok (.iload 6, 2) := by decide +kernel
theorem dX1_reachedFrom_67 : decode cX1_reachedFrom 67 = .ok (.ior, 1) := by decide +kernel
theorem dX1_reachedFrom_68 : decode cX1_reachedFrom 68 = .ok (.istore_n 3, 1) := by decide +kernel
theorem dX1_reachedFrom_69 : decode cX1_reachedFrom 69 = .ok (.iinc 5 1, 3) := by decide +kernel
theorem dX1_reachedFrom_72 : decode cX1_reachedFrom 72 = .ok (.goto (-55), 3) := by decide +kernel
theorem dX1_reachedFrom_75 : decode cX1_reachedFrom 75 = .ok (.iinc 4 1, 3) := by decide +kernel
theorem dX1_reachedFrom_78 : decode cX1_reachedFrom 78 = .ok (.goto (-73), 3) := by decide +kernel
theorem dX1_reachedFrom_81 : decode cX1_reachedFrom 81 = .ok (.iload_n 3, 1) := by decide +kernel
theorem dX1_reachedFrom_82 : decode cX1_reachedFrom 82 = .ok (.ireturn, 1) := by decide +kernel
theorem dX2_leastLocks_0 : decode cX2_leastLocks 0 = .ok (.iconst 0, 1) := by decide +kernel
theorem dX2_leastLocks_1 : decode cX2_leastLocks 1 = .ok (.istore_n 2, 1) := by decide +kernel
theorem dX2_leastLocks_2 : decode cX2_leastLocks 2 = .ok (.iconst 0, 1) := by decide +kernel
theorem dX2_leastLocks_3 : decode cX2_leastLocks 3 = .ok (.istore_n 3, 1) := by decide +kernel
theorem dX2_leastLocks_4 : decode cX2_leastLocks 4 = .ok (.iload_n 3, 1) := by decide +kernel
theorem dX2_leastLocks_5 : decode cX2_leastLocks 5 = .ok (.aload_n 0, 1) := by decide +kernel
theorem dX2_leastLocks_6 : decode cX2_leastLocks 6 = .ok (.getfield 60, 3) := by decide +kernel
theorem dX2_leastLocks_9 : decode cX2_leastLocks 9 = .ok (.if_icmp .ge 20, 3) := by decide +kernel
theorem dX2_leastLocks_12 : decode cX2_leastLocks 12 = .ok (.iload_n 2, 1) := by decide +kernel
theorem dX2_leastLocks_13 : decode cX2_leastLocks 13 = .ok (.iconst 1, 1) := by decide +kernel
theorem dX2_leastLocks_14 : decode cX2_leastLocks 14 = .ok (.aload_n 0, 1) := by decide +kernel
theorem dX2_leastLocks_15 : decode cX2_leastLocks 15 = .ok (.getfield 29, 3) := by decide +kernel
theorem dX2_leastLocks_18 : decode cX2_leastLocks 18 = .ok (.iload_n 3, 1) := by decide +kernel
theorem dX2_leastLocks_19 : decode cX2_leastLocks 19 = .ok (.iaload, 1) := by decide +kernel
theorem dX2_leastLocks_20 : decode cX2_leastLocks 20 = .ok (.ishl, 1) := by decide +kernel
theorem dX2_leastLocks_21 : decode cX2_leastLocks 21 = .ok (.ior, 1) := by decide +kernel
theorem dX2_leastLocks_22 : decode cX2_leastLocks 22 = .ok (.istore_n 2, 1) := by decide +kernel
theorem dX2_leastLocks_23 : decode cX2_leastLocks 23 = .ok (.iinc 3 1, 3) := by decide +kernel
theorem dX2_leastLocks_26 : decode cX2_leastLocks 26 = .ok (.goto (-22), 3) := by decide +kernel
theorem dX2_leastLocks_29 : decode cX2_leastLocks 29 = .ok (.iload_n 2, 1) := by decide +kernel
theorem dX2_leastLocks_30 : decode cX2_leastLocks 30 = .ok (.i2l, 1) := by decide +kernel
theorem dX2_leastLocks_31 : decode cX2_leastLocks 31 = .ok (.iload_n 1, 1) := by decide +kernel
theorem dX2_leastLocks_32 : decode cX2_leastLocks 32 = .ok (.invokestatic 77, 3) := by decide +kernel
theorem dX2_leastLocks_35 : decode cX2_leastLocks 35 = .ok (.ifCond .eq 6, 3) := by decide +kernel
theorem dX2_leastLocks_38 : decode cX2_leastLocks 38 = .ok (.bipush (-2), 2) := by decide +kernel
theorem dX2_leastLocks_40 : decode cX2_leastLocks 40 = .ok (.ireturn, 1) := by decide +kernel
theorem dX2_leastLocks_41 : decode cX2_leastLocks 41 = .ok (.aload_n 0, 1) := by decide +kernel
theorem dX2_leastLocks_42 : decode cX2_leastLocks 42 = .ok (.iconst 0, 1) := by decide +kernel
theorem dX2_leastLocks_43 : decode cX2_leastLocks 43 = .ok (.invokevirtual 81, 3) := by decide +kernel
theorem dX2_leastLocks_46 : decode cX2_leastLocks 46 = .ok (.istore_n 3, 1) := by decide +kernel
theorem dX2_leastLocks_47 : decode cX2_leastLocks 47 = .ok (.iconst 1, 1) := by decide +kernel
theorem dX2_leastLocks_48 : decode cX2_leastLocks 48 = .ok (.aload_n 0, 1) := by decide +kernel
theorem dX2_leastLocks_49 : decode cX2_leastLocks 49 = .ok (.getfield 12, 3) := by decide +kernel
theorem dX2_leastLocks_52 : decode cX2_leastLocks 52 = .ok (.getfield 42, 3) := by decide +kernel
theorem dX2_leastLocks_55 : decode cX2_leastLocks 55 = .ok (.ishl, 1) := by decide +kernel
theorem dX2_leastLocks_56 : decode cX2_leastLocks 56 = .ok (.iconst 1, 1) := by decide +kernel
theorem dX2_leastLocks_57 : decode cX2_leastLocks 57 = .ok (.isub, 1) := by decide +kernel
theorem dX2_leastLocks_58 : decode cX2_leastLocks 58 = .ok (.istore 4, 2) := by decide +kernel
theorem dX2_leastLocks_60 : decode cX2_leastLocks 60 = .ok (.iconst 0, 1) := by decide +kernel
theorem dX2_leastLocks_61 : decode cX2_leastLocks 61 = .ok (.istore 5, 2) := by decide +kernel
theorem dX2_leastLocks_63 : decode cX2_leastLocks 63 = .ok (.iload 5, 2) := by decide +kernel
theorem dX2_leastLocks_65 : decode cX2_leastLocks 65 = .ok (.iconst 1, 1) := by decide +kernel
theorem dX2_leastLocks_66 : decode cX2_leastLocks 66 = .ok (.aload_n 0, 1) := by decide +kernel
theorem dX2_leastLocks_67 : decode cX2_leastLocks 67 = .ok (.getfield 12, 3) := by decide +kernel
theorem dX2_leastLocks_70 : decode cX2_leastLocks 70 = .ok (.getfield 42, 3) := by decide +kernel
theorem dX2_leastLocks_73 : decode cX2_leastLocks 73 = .ok (.ishl, 1) := by decide +kernel
theorem dX2_leastLocks_74 : decode cX2_leastLocks 74 = .ok (.if_icmp .ge 46, 3) := by decide +kernel
theorem dX2_leastLocks_77 : decode cX2_leastLocks 77 = .ok (.iload 5, 2) := by decide +kernel
theorem dX2_leastLocks_79 : decode cX2_leastLocks 79 = .ok (.invokestatic 85, 3) := by decide +kernel
theorem dX2_leastLocks_82 : decode cX2_leastLocks 82 = .ok (.iload 4, 2) := by decide +kernel
theorem dX2_leastLocks_84 : decode cX2_leastLocks 84 = .ok (.invokestatic 85, 3) := by decide +kernel
theorem dX2_leastLocks_87 : decode cX2_leastLocks 87 = .ok (.if_icmp .ge 27, 3) := by decide +kernel
theorem dX2_leastLocks_90 : decode cX2_leastLocks 90 = .ok (.aload_n 0, 1) := by decide +kernel
theorem dX2_leastLocks_91 : decode cX2_leastLocks 91 = .ok (.getfield 12, 3) := by decide +kernel
theorem dX2_leastLocks_94 : decode cX2_leastLocks 94 = .ok (.iload_n 2, 1) := by decide +kernel
theorem dX2_leastLocks_95 : decode cX2_leastLocks 95 = .ok (.iload_n 3, 1) := by decide +kernel
theorem dX2_leastLocks_96 : decode cX2_leastLocks 96 = .ok (.iload 5, 2) := by decide +kernel
theorem dX2_leastLocks_98 : decode cX2_leastLocks 98 = .ok (.ior, 1) := by decide +kernel
theorem dX2_leastLocks_99 : decode cX2_leastLocks 99 = .ok (.invokevirtual 90, 3) := by decide +kernel
theorem dX2_leastLocks_102 : decode cX2_leastLocks 102 = .ok (.i2l, 1) := by decide +kernel
theorem dX2_leastLocks_103 : decode cX2_leastLocks 103 = .ok (.iload_n 1, 1) := by decide +kernel
theorem dX2_leastLocks_104 : decode cX2_leastLocks 104 = .ok (.invokestatic 77, 3) := by decide +kernel
theorem dX2_leastLocks_107 : decode cX2_leastLocks 107 = .ok (.ifCond .ne 7, 3) := by decide +kernel
theorem dX2_leastLocks_110 : decode cX2_leastLocks 110 = .ok (.iload 5, 2) := by decide +kernel
theorem dX2_leastLocks_112 : decode cX2_leastLocks 112 = .ok (.istore 4, 2) := by decide +kernel
theorem dX2_leastLocks_114 : decode cX2_leastLocks 114 = .ok (.iinc 5 1, 3) := by decide +kernel
theorem dX2_leastLocks_117 : decode cX2_leastLocks 117 = .ok (.goto (-54), 3) := by decide +kernel
theorem dX2_leastLocks_120 : decode cX2_leastLocks 120 = .ok (.iload 4, 2) := by decide +kernel
theorem dX2_leastLocks_122 : decode cX2_leastLocks 122 = .ok (.ireturn, 1) := by decide +kernel
theorem dX10_safely_0 : decode cX10_safely 0 = .ok (.aload_n 0, 1) := by decide +kernel
theorem dX10_safely_1 : decode cX10_safely 1 = .ok (.iload_n 1, 1) := by decide +kernel
theorem dX10_safely_2 : decode cX10_safely 2 = .ok (.invokevirtual 101, 3) := by decide +kernel
theorem dX10_safely_5 : decode cX10_safely 5 = .ok (.ifCond .ne 9, 3) := by decide +kernel
theorem dX10_safely_8 : decode cX10_safely 8 = .ok (.aload_n 0, 1) := by decide +kernel
theorem dX10_safely_9 : decode cX10_safely 9 = .ok (.iconst 1, 1) := by decide +kernel
theorem dX10_safely_10 : decode cX10_safely 10 = .ok (.invokevirtual 68, 3) := by decide +kernel
theorem dX10_safely_13 : decode cX10_safely 13 = .ok (.ireturn, 1) := by decide +kernel
theorem dX10_safely_14 : decode cX10_safely 14 = .ok (.aload_n 0, 1) := by decide +kernel
theorem dX10_safely_15 : decode cX10_safely 15 = .ok (.aload_n 0, 1) := by decide +kernel
theorem dX10_safely_16 : decode cX10_safely 16 = .ok (.getfield 19, 3) := by decide +kernel
theorem dX10_safely_19 : decode cX10_safely 19 = .ok (.iload_n 1, 1) := by decide +kernel
theorem dX10_safely_20 : decode cX10_safely 20 = .ok (.invokevirtual 295, 3) := by decide +kernel
theorem dX10_safely_23 : decode cX10_safely 23 = .ok (.invokevirtual 95, 3) := by decide +kernel
theorem dX10_safely_26 : decode cX10_safely 26 = .ok (.ireturn, 1) := by decide +kernel
theorem dX10_safe_0 : decode cX10_safe 0 = .ok (.aload_n 0, 1) := by decide +kernel
theorem dX10_safe_1 : decode cX10_safe 1 = .ok (.iload_n 1, 1) := by decide +kernel
theorem dX10_safe_2 : decode cX10_safe 2 = .ok (.invokevirtual 288, 3) := by decide +kernel
theorem dX10_safe_5 : decode cX10_safe 5 = .ok (.istore_n 2, 1) := by decide +kernel
theorem dX10_safe_6 : decode cX10_safe 6 = .ok (.iload_n 2, 1) := by decide +kernel
theorem dX10_safe_7 : decode cX10_safe 7 = .ok (.ifCond .ge 7, 3) := by decide +kernel
theorem dX10_safe_10 : decode cX10_safe 10 = .ok (.iload_n 2, 1) := by decide +kernel
theorem dX10_safe_11 : decode cX10_safe 11 = .ok (.goto 7, 3) := by decide +kernel
theorem dX10_safe_14 : decode cX10_safe 14 = .ok (.iload_n 2, 1) := by decide +kernel
theorem dX10_safe_15 : decode cX10_safe 15 = .ok (.invokestatic 291, 3) := by decide +kernel
theorem dX10_safe_18 : decode cX10_safe 18 = .ok (.ireturn, 1) := by decide +kernel
def wX10_noteDoor (E : EN) (h h_reader h_inn h_chosen h_night h_marks h_notes h_casts h_inn_house h_inn_thingIn h_inn_full h_inn_states h_inn_bed h_inn_dreamOf h_inn_listensIn h_inn_house_creak h_inn_house_cold h_inn_house_one h_inn_house_other h_inn_house_how h_inn_house_falls h_inn_house_ways h_notes_book h_notes_sort h_notes_one h_notes_other : Nat) (v_marked : Int32) (v_refusal : Int32) (v_latestFault : Int32) (v_faultPlace : Int32) (v_inn_minutes : Int32) (v_inn_things : Int32) (v_inn_dreams : Int32) (v_inn_sleepers : Int32) (v_inn_listeners : Int32) (v_inn_house_rooms : Int32) (v_inn_house_doors : Int32) (v_notes_count : Int32) (v_notes_book : Nat → Int32) (v_notes_sort : Nat → Int32) (v_notes_one : Nat → Int32) (v_notes_other : Nat → Int32) : va_W := [(h, .inr (9, [.ref h_reader, .ref h_inn, .ref h_chosen, .ref h_night, .ref h_marks, .int v_marked, .ref h_notes, .ref h_casts, .int v_refusal, .int v_latestFault, .int v_faultPlace])), (h_inn, .inr (2, [.ref h_inn_house, .int v_inn_minutes, .int v_inn_things, .ref h_inn_thingIn, .ref h_inn_full, .int v_inn_dreams, .ref h_inn_states, .int v_inn_sleepers, .ref h_inn_bed, .ref h_inn_dreamOf, .int v_inn_listeners, .ref h_inn_listensIn])), (h_inn_house, .inr (1, [.int v_inn_house_rooms, .ref h_inn_house_creak, .ref h_inn_house_cold, .int v_inn_house_doors, .ref h_inn_house_one, .ref h_inn_house_other, .ref h_inn_house_how, .ref h_inn_house_falls, .ref h_inn_house_ways])), (h_notes, .inr (5, [.ref h_notes_book, .ref h_notes_sort, .ref h_notes_one, .ref h_notes_other, .int v_notes_count])), (h_notes_book, aI E 20 v_notes_book), (h_notes_sort, aI E 20 v_notes_sort), (h_notes_one, aI E 20 v_notes_one), (h_notes_other, aI E 20 v_notes_other)]
def fX10_noteDoor (N : Nat) (p0 : Int32) (p1 : Int32) (p2 : Int32) (v_inn_house_doors : Int32) (v_notes_count : Int32) (v_notes_book : Nat → Int32) (v_notes_sort : Nat → Int32) (v_notes_one : Nat → Int32) (v_notes_other : Nat → Int32) : Option (Int32 × Int32 × Int32 × (Nat → Int32) × (Nat → Int32) × (Nat → Int32) × (Nat → Int32)) := (fX10_isBook N p0).bind (un1 fun (r_1 : Int32) => if r_1 = 0 then ((fX10_refuse N 1).bind (un2 fun (r_17 : Int32) (v_refusal_17 : Int32) => some (r_17, v_refusal_17, v_notes_count, v_notes_book, v_notes_sort, v_notes_one, v_notes_other))) else ((fX10_isDoor N p1 v_inn_house_doors).bind (un1 fun (r_9 : Int32) => if r_9 = 0 then ((fX10_refuse N 1).bind (un2 fun (r_17 : Int32) (v_refusal_17 : Int32) => some (r_17, v_refusal_17, v_notes_count, v_notes_book, v_notes_sort, v_notes_one, v_notes_other))) else (if p2 < 0 then ((fX10_refuse N 2).bind (un2 fun (r_32 : Int32) (v_refusal_32 : Int32) => some (r_32, v_refusal_32, v_notes_count, v_notes_book, v_notes_sort, v_notes_one, v_notes_other))) else (if p2 ≤ 2 then ((fX10_write N p0 3 p1 p2 v_notes_count v_notes_book v_notes_sort v_notes_one v_notes_other).bind (un7 fun (r_41 : Int32) (v_refusal_41 : Int32) (v_notes_count_41 : Int32) (v_notes_book_41 : Nat → Int32) (v_notes_sort_41 : Nat → Int32) (v_notes_one_41 : Nat → Int32) (v_notes_other_41 : Nat → Int32) => some (r_41, v_refusal_41, v_notes_count_41, v_notes_book_41, v_notes_sort_41, v_notes_one_41, v_notes_other_41))) else ((fX10_refuse N 2).bind (un2 fun (r_32 : Int32) (v_refusal_32 : Int32) => some (r_32, v_refusal_32, v_notes_count, v_notes_book, v_notes_sort, v_notes_one, v_notes_other))))))))
set_option maxHeartbeats 4000000 in
set_option maxRecDepth 100000 in
theorem ctX10_noteDoor (l : Launch) (E : EN) (h h_reader h_inn h_chosen h_night h_marks h_notes h_casts h_inn_house h_inn_thingIn h_inn_full h_inn_states h_inn_bed h_inn_dreamOf h_inn_listensIn h_inn_house_creak h_inn_house_cold h_inn_house_one h_inn_house_other h_inn_house_how h_inn_house_falls h_inn_house_ways h_notes_book h_notes_sort h_notes_one h_notes_other : Nat) (v_marked : Int32) (v_refusal : Int32) (v_latestFault : Int32) (v_faultPlace : Int32) (v_inn_minutes : Int32) (v_inn_things : Int32) (v_inn_dreams : Int32) (v_inn_sleepers : Int32) (v_inn_listeners : Int32) (v_inn_house_rooms : Int32) (v_inn_house_doors : Int32) (v_notes_count : Int32) (v_notes_book : Nat → Int32) (v_notes_sort : Nat → Int32) (v_notes_one : Nat → Int32) (v_notes_other : Nat → Int32) (N : Nat) (p0 : Int32) (p1 : Int32) (p2 : Int32) (z : Int32 × Int32 × Int32 × (Nat → Int32) × (Nat → Int32) × (Nat → Int32) × (Nat → Int32)) (hf : fX10_noteDoor N p0 p1 p2 v_inn_house_doors v_notes_count v_notes_book v_notes_sort v_notes_one v_notes_other = some z) : CTi l E yX10_noteDoor cX10_noteDoor 4 .int 2 48 [.ref h, .int p0, .int p1, .int p2] (wX10_noteDoor E h h_reader h_inn h_chosen h_night h_marks h_notes h_casts h_inn_house h_inn_thingIn h_inn_full h_inn_states h_inn_bed h_inn_dreamOf h_inn_listensIn h_inn_house_creak h_inn_house_cold h_inn_house_one h_inn_house_other h_inn_house_how h_inn_house_falls h_inn_house_ways h_notes_book h_notes_sort h_notes_one h_notes_other v_marked v_refusal v_latestFault v_faultPlace v_inn_minutes v_inn_things v_inn_dreams v_inn_sleepers v_inn_listeners v_inn_house_rooms v_inn_house_doors v_notes_count v_notes_book v_notes_sort v_notes_one v_notes_other) (z.1) (wX10_noteDoor E h h_reader h_inn h_chosen h_night h_marks h_notes h_casts h_inn_house h_inn_thingIn h_inn_full h_inn_states h_inn_bed h_inn_dreamOf h_inn_listensIn h_inn_house_creak h_inn_house_cold h_inn_house_one h_inn_house_other h_inn_house_how h_inn_house_falls h_inn_house_ways h_notes_book h_notes_sort h_notes_one h_notes_other v_marked z.2.1 v_latestFault v_faultPlace v_inn_minutes v_inn_things v_inn_dreams v_inn_sleepers v_inn_listeners v_inn_house_rooms v_inn_house_doors z.2.2.1 z.2.2.2.1 z.2.2.2.2.1 z.2.2.2.2.2.1 z.2.2.2.2.2.2) := by
  intro sz
  refine ct_body (by decide) (Nat.le_of_ble_eq_true rfl) ?_
  intro p e s m args below meth c A ls hAe C hr hin hP hD hS hl
  have C : CX p s m args meth c cX10_noteDoor RX10 4 E A := C
  have hl : lv_has ls 4 [(0, .ref h), (1, .int p0), (2, .int p1), (3, .int p2)] := hl
  have hx := C.1
  have hb := C.2.1
  rw [hAe]
  clear hAe
  obtain ⟨Q, hQ⟩ : ∃ Q, Q = MQ below (Qi E A (z.1) (wX10_noteDoor E h h_reader h_inn h_chosen h_night h_marks h_notes h_casts h_inn_house h_inn_thingIn h_inn_full h_inn_states h_inn_bed h_inn_dreamOf h_inn_listensIn h_inn_house_creak h_inn_house_cold h_inn_house_one h_inn_house_other h_inn_house_how h_inn_house_falls h_inn_house_ways h_notes_book h_notes_sort h_notes_one h_notes_other v_marked z.2.1 v_latestFault v_faultPlace v_inn_minutes v_inn_things v_inn_dreams v_inn_sleepers v_inn_listeners v_inn_house_rooms v_inn_house_doors z.2.2.1 z.2.2.2.1 z.2.2.2.2.1 z.2.2.2.2.2.1 z.2.2.2.2.2.2)) args s 0 0 A := ⟨_, rfl⟩
  rw [← hQ]
  unfold fX10_noteDoor at hf
  refine lv_iload_n (pc := 0) hx hb dX10_noteDoor_0 rfl (lv_at hl 1 rfl) ?_
  obtain ⟨r_1, hc_1, hf⟩ := bd1 hf
  refine r_dalSi (pc := 1) (Cn := "") (h := 0) (ws' := (wX10_noteDoor E h h_reader h_inn h_chosen h_night h_marks h_notes h_casts h_inn_house h_inn_thingIn h_inn_full h_inn_states h_inn_bed h_inn_dreamOf h_inn_listensIn h_inn_house_creak h_inn_house_cold h_inn_house_one h_inn_house_other h_inn_house_how h_inn_house_falls h_inn_house_ways h_notes_book h_notes_sort h_notes_one h_notes_other v_marked v_refusal v_latestFault v_faultPlace v_inn_minutes v_inn_things v_inn_dreams v_inn_sleepers v_inn_listeners v_inn_house_rooms v_inn_house_doors v_notes_count v_notes_book v_notes_sort v_notes_one v_notes_other)) (As := [.int p0]) (rest := []) C (ctX10_isBook l E N p0 r_1 hc_1) ml_X10_249 ⟨Nat.le_of_ble_eq_true rfl, Nat.le_of_ble_eq_true rfl⟩ hP hD hS [] [0, 1, 2, 3, 4, 5, 6, 7] 8 rfl rfl rfl rfl rfl rfl rfl hl.1 rfl (Nat.le_of_ble_eq_true rfl) ⟨Nat.zero_le _, Nat.zero_le _⟩ dX10_noteDoor_1 ?_
  clear hP hD hS; intro H locs hP hD hS
  refine lv_if_eq (pc := 4) (tgt := 15) hx hb dX10_noteDoor_4 (by decide) (fun c_4 => ?_) (fun c_4 => ?_)
  · replace hf := it_t c_4 hf
    refine lv_aload_n (pc := 15) hx hb dX10_noteDoor_15 rfl (lv_at hl 0 rfl) ?_
    refine lv_iconst (pc := 16) (v := 1) hx hb dX10_noteDoor_16 (by decide) ?_
    obtain ⟨r_17, v_refusal_17, hc_17, hf⟩ := bd2 hf
    refine r_dalVi (pc := 17) (ws' := (wX10_noteDoor E h h_reader h_inn h_chosen h_night h_marks h_notes h_casts h_inn_house h_inn_thingIn h_inn_full h_inn_states h_inn_bed h_inn_dreamOf h_inn_listensIn h_inn_house_creak h_inn_house_cold h_inn_house_one h_inn_house_other h_inn_house_how h_inn_house_falls h_inn_house_ways h_notes_book h_notes_sort h_notes_one h_notes_other v_marked v_refusal_17 v_latestFault v_faultPlace v_inn_minutes v_inn_things v_inn_dreams v_inn_sleepers v_inn_listeners v_inn_house_rooms v_inn_house_doors v_notes_count v_notes_book v_notes_sort v_notes_one v_notes_other)) (As := [.int 1]) (rest := []) C (ctX10_refuse l E h h_reader h_inn h_chosen h_night h_marks h_notes h_casts v_marked v_refusal v_latestFault v_faultPlace N 1 (r_17, v_refusal_17) hc_17) ml_X10_68 ⟨Nat.le_of_ble_eq_true rfl, Nat.le_of_ble_eq_true rfl⟩ hP hD hS 0 rfl rfl rfl [0] [8, 1, 2, 3, 4, 5, 6, 7] 8 rfl rfl rfl rfl rfl rfl rfl hl.1 rfl (Nat.le_of_ble_eq_true rfl) ⟨Nat.zero_le _, Nat.zero_le _⟩ dX10_noteDoor_17 ?_
    clear hP hD hS; intro H locs hP hD hS
    cases hf
    rw [hQ]
    exact r_iret C hr hP hD hS rfl dX10_noteDoor_20
  · replace hf := it_f c_4 hf
    refine lv_aload_n (pc := 7) hx hb dX10_noteDoor_7 rfl (lv_at hl 0 rfl) ?_
    refine lv_iload_n (pc := 8) hx hb dX10_noteDoor_8 rfl (lv_at hl 2 rfl) ?_
    obtain ⟨r_9, hc_9, hf⟩ := bd1 hf
    refine r_dalVi (pc := 9) (ws' := (wX10_noteDoor E h h_reader h_inn h_chosen h_night h_marks h_notes h_casts h_inn_house h_inn_thingIn h_inn_full h_inn_states h_inn_bed h_inn_dreamOf h_inn_listensIn h_inn_house_creak h_inn_house_cold h_inn_house_one h_inn_house_other h_inn_house_how h_inn_house_falls h_inn_house_ways h_notes_book h_notes_sort h_notes_one h_notes_other v_marked v_refusal v_latestFault v_faultPlace v_inn_minutes v_inn_things v_inn_dreams v_inn_sleepers v_inn_listeners v_inn_house_rooms v_inn_house_doors v_notes_count v_notes_book v_notes_sort v_notes_one v_notes_other)) (As := [.int p1]) (rest := []) C (ctX10_isDoor l E h h_reader h_inn h_chosen h_night h_marks h_notes h_casts h_inn_house h_inn_thingIn h_inn_full h_inn_states h_inn_bed h_inn_dreamOf h_inn_listensIn h_inn_house_creak h_inn_house_cold h_inn_house_one h_inn_house_other h_inn_house_how h_inn_house_falls h_inn_house_ways v_marked v_refusal v_latestFault v_faultPlace v_inn_minutes v_inn_things v_inn_dreams v_inn_sleepers v_inn_listeners v_inn_house_rooms v_inn_house_doors N p1 r_9 hc_9) ml_X10_213 ⟨Nat.le_of_ble_eq_true rfl, Nat.le_of_ble_eq_true rfl⟩ hP hD hS 0 rfl rfl rfl [0, 1, 2] [8, 9, 10, 3, 4, 5, 6, 7] 8 rfl rfl rfl rfl rfl rfl rfl hl.1 rfl (Nat.le_of_ble_eq_true rfl) ⟨Nat.zero_le _, Nat.zero_le _⟩ dX10_noteDoor_9 ?_
    clear hP hD hS; intro H locs hP hD hS
    refine lv_if_ne (pc := 12) (tgt := 21) hx hb dX10_noteDoor_12 (by decide) (fun c_12 => ?_) (fun c_12 => ?_)
    · replace hf := it_f c_12 hf
      refine lv_iload_n (pc := 21) hx hb dX10_noteDoor_21 rfl (lv_at hl 3 rfl) ?_
      refine lv_if_lt (pc := 22) (tgt := 30) hx hb dX10_noteDoor_22 (by decide) (fun c_22 => ?_) (fun c_22 => ?_)
      · replace hf := it_t c_22 hf
        refine lv_aload_n (pc := 30) hx hb dX10_noteDoor_30 rfl (lv_at hl 0 rfl) ?_
        refine lv_iconst (pc := 31) (v := 2) hx hb dX10_noteDoor_31 (by decide) ?_
        obtain ⟨r_32, v_refusal_32, hc_32, hf⟩ := bd2 hf
        refine r_dalVi (pc := 32) (ws' := (wX10_noteDoor E h h_reader h_inn h_chosen h_night h_marks h_notes h_casts h_inn_house h_inn_thingIn h_inn_full h_inn_states h_inn_bed h_inn_dreamOf h_inn_listensIn h_inn_house_creak h_inn_house_cold h_inn_house_one h_inn_house_other h_inn_house_how h_inn_house_falls h_inn_house_ways h_notes_book h_notes_sort h_notes_one h_notes_other v_marked v_refusal_32 v_latestFault v_faultPlace v_inn_minutes v_inn_things v_inn_dreams v_inn_sleepers v_inn_listeners v_inn_house_rooms v_inn_house_doors v_notes_count v_notes_book v_notes_sort v_notes_one v_notes_other)) (As := [.int 2]) (rest := []) C (ctX10_refuse l E h h_reader h_inn h_chosen h_night h_marks h_notes h_casts v_marked v_refusal v_latestFault v_faultPlace N 2 (r_32, v_refusal_32) hc_32) ml_X10_68 ⟨Nat.le_of_ble_eq_true rfl, Nat.le_of_ble_eq_true rfl⟩ hP hD hS 0 rfl rfl rfl [0] [8, 1, 2, 3, 4, 5, 6, 7] 8 rfl rfl rfl rfl rfl rfl rfl hl.1 rfl (Nat.le_of_ble_eq_true rfl) ⟨Nat.zero_le _, Nat.zero_le _⟩ dX10_noteDoor_32 ?_
        clear hP hD hS; intro H locs hP hD hS
        cases hf
        rw [hQ]
        exact r_iret C hr hP hD hS rfl dX10_noteDoor_35
      · replace hf := it_f c_22 hf
        refine lv_iload_n (pc := 25) hx hb dX10_noteDoor_25 rfl (lv_at hl 3 rfl) ?_
        refine lv_iconst (pc := 26) (v := 2) hx hb dX10_noteDoor_26 (by decide) ?_
        refine lv_icmp_le (pc := 27) (tgt := 36) hx hb dX10_noteDoor_27 (by decide) (fun c_27 => ?_) (fun c_27 => ?_)
        · replace hf := it_t c_27 hf
          refine lv_aload_n (pc := 36) hx hb dX10_noteDoor_36 rfl (lv_at hl 0 rfl) ?_
          refine lv_iload_n (pc := 37) hx hb dX10_noteDoor_37 rfl (lv_at hl 1 rfl) ?_
          refine lv_iconst (pc := 38) (v := 3) hx hb dX10_noteDoor_38 (by decide) ?_
          refine lv_iload_n (pc := 39) hx hb dX10_noteDoor_39 rfl (lv_at hl 2 rfl) ?_
          refine lv_iload_n (pc := 40) hx hb dX10_noteDoor_40 rfl (lv_at hl 3 rfl) ?_
          obtain ⟨r_41, v_refusal_41, v_notes_count_41, v_notes_book_41, v_notes_sort_41, v_notes_one_41, v_notes_other_41, hc_41, hf⟩ := bd7 hf
          refine r_dalVi (pc := 41) (ws' := (wX10_noteDoor E h h_reader h_inn h_chosen h_night h_marks h_notes h_casts h_inn_house h_inn_thingIn h_inn_full h_inn_states h_inn_bed h_inn_dreamOf h_inn_listensIn h_inn_house_creak h_inn_house_cold h_inn_house_one h_inn_house_other h_inn_house_how h_inn_house_falls h_inn_house_ways h_notes_book h_notes_sort h_notes_one h_notes_other v_marked v_refusal_41 v_latestFault v_faultPlace v_inn_minutes v_inn_things v_inn_dreams v_inn_sleepers v_inn_listeners v_inn_house_rooms v_inn_house_doors v_notes_count_41 v_notes_book_41 v_notes_sort_41 v_notes_one_41 v_notes_other_41)) (As := [.int p0, .int 3, .int p1, .int p2]) (rest := []) C (ctX10_write l E h h_reader h_inn h_chosen h_night h_marks h_notes h_casts h_notes_book h_notes_sort h_notes_one h_notes_other v_marked v_refusal v_latestFault v_faultPlace v_notes_count v_notes_book v_notes_sort v_notes_one v_notes_other N p0 3 p1 p2 (r_41, v_refusal_41, v_notes_count_41, v_notes_book_41, v_notes_sort_41, v_notes_one_41, v_notes_other_41) hc_41) ml_X10_252 ⟨Nat.le_of_ble_eq_true rfl, Nat.le_of_ble_eq_true rfl⟩ hP hD hS 0 rfl rfl rfl [0, 3, 4, 5, 6, 7] [8, 1, 2, 9, 10, 11, 12, 13] 8 rfl rfl rfl rfl rfl rfl rfl hl.1 rfl (Nat.le_of_ble_eq_true rfl) ⟨Nat.zero_le _, Nat.zero_le _⟩ dX10_noteDoor_41 ?_
          clear hP hD hS; intro H locs hP hD hS
          cases hf
          rw [hQ]
          exact r_iret C hr hP hD hS rfl dX10_noteDoor_44
        · replace hf := it_f c_27 hf
          refine lv_aload_n (pc := 30) hx hb dX10_noteDoor_30 rfl (lv_at hl 0 rfl) ?_
          refine lv_iconst (pc := 31) (v := 2) hx hb dX10_noteDoor_31 (by decide) ?_
          obtain ⟨r_32, v_refusal_32, hc_32, hf⟩ := bd2 hf
          refine r_dalVi (pc := 32) (ws' := (wX10_noteDoor E h h_reader h_inn h_chosen h_night h_marks h_notes h_casts h_inn_house h_inn_thingIn h_inn_full h_inn_states h_inn_bed h_inn_dreamOf h_inn_listensIn h_inn_house_creak h_inn_house_cold h_inn_house_one h_inn_house_other h_inn_house_how h_inn_house_falls h_inn_house_ways h_notes_book h_notes_sort h_notes_one h_notes_other v_marked v_refusal_32 v_latestFault v_faultPlace v_inn_minutes v_inn_things v_inn_dreams v_inn_sleepers v_inn_listeners v_inn_house_rooms v_inn_house_doors v_notes_count v_notes_book v_notes_sort v_notes_one v_notes_other)) (As := [.int 2]) (rest := []) C (ctX10_refuse l E h h_reader h_inn h_chosen h_night h_marks h_notes h_casts v_marked v_refusal v_latestFault v_faultPlace N 2 (r_32, v_refusal_32) hc_32) ml_X10_68 ⟨Nat.le_of_ble_eq_true rfl, Nat.le_of_ble_eq_true rfl⟩ hP hD hS 0 rfl rfl rfl [0] [8, 1, 2, 3, 4, 5, 6, 7] 8 rfl rfl rfl rfl rfl rfl rfl hl.1 rfl (Nat.le_of_ble_eq_true rfl) ⟨Nat.zero_le _, Nat.zero_le _⟩ dX10_noteDoor_32 ?_
          clear hP hD hS; intro H locs hP hD hS
          cases hf
          rw [hQ]
          exact r_iret C hr hP hD hS rfl dX10_noteDoor_35
    · replace hf := it_t c_12 hf
      refine lv_aload_n (pc := 15) hx hb dX10_noteDoor_15 rfl (lv_at hl 0 rfl) ?_
      refine lv_iconst (pc := 16) (v := 1) hx hb dX10_noteDoor_16 (by decide) ?_
      obtain ⟨r_17, v_refusal_17, hc_17, hf⟩ := bd2 hf
      refine r_dalVi (pc := 17) (ws' := (wX10_noteDoor E h h_reader h_inn h_chosen h_night h_marks h_notes h_casts h_inn_house h_inn_thingIn h_inn_full h_inn_states h_inn_bed h_inn_dreamOf h_inn_listensIn h_inn_house_creak h_inn_house_cold h_inn_house_one h_inn_house_other h_inn_house_how h_inn_house_falls h_inn_house_ways h_notes_book h_notes_sort h_notes_one h_notes_other v_marked v_refusal_17 v_latestFault v_faultPlace v_inn_minutes v_inn_things v_inn_dreams v_inn_sleepers v_inn_listeners v_inn_house_rooms v_inn_house_doors v_notes_count v_notes_book v_notes_sort v_notes_one v_notes_other)) (As := [.int 1]) (rest := []) C (ctX10_refuse l E h h_reader h_inn h_chosen h_night h_marks h_notes h_casts v_marked v_refusal v_latestFault v_faultPlace N 1 (r_17, v_refusal_17) hc_17) ml_X10_68 ⟨Nat.le_of_ble_eq_true rfl, Nat.le_of_ble_eq_true rfl⟩ hP hD hS 0 rfl rfl rfl [0] [8, 1, 2, 3, 4, 5, 6, 7] 8 rfl rfl rfl rfl rfl rfl rfl hl.1 rfl (Nat.le_of_ble_eq_true rfl) ⟨Nat.zero_le _, Nat.zero_le _⟩ dX10_noteDoor_17 ?_
      clear hP hD hS; intro H locs hP hD hS
      cases hf
      rw [hQ]
      exact r_iret C hr hP hD hS rfl dX10_noteDoor_20
def wX10_strike (E : EN) (h h_reader h_inn h_chosen h_night h_marks h_notes h_casts h_notes_book h_notes_sort h_notes_one h_notes_other : Nat) (v_marked : Int32) (v_refusal : Int32) (v_latestFault : Int32) (v_faultPlace : Int32) (v_notes_count : Int32) : va_W := [(h, .inr (9, [.ref h_reader, .ref h_inn, .ref h_chosen, .ref h_night, .ref h_marks, .int v_marked, .ref h_notes, .ref h_casts, .int v_refusal, .int v_latestFault, .int v_faultPlace])), (h_notes, .inr (5, [.ref h_notes_book, .ref h_notes_sort, .ref h_notes_one, .ref h_notes_other, .int v_notes_count]))]
def fX10_strike (N : Nat) (v_notes_count : Int32) : Option (Int32 × Int32 × Int32) := if v_notes_count = 0 then ((fX10_deny N 6).bind (un2 fun (r_13 : Int32) (v_refusal_13 : Int32) => zg r_13 (some (r_13, v_refusal_13, v_notes_count)))) else ((fX10_agree N).bind (un2 fun (r_31 : Int32) (v_refusal_31 : Int32) => zg r_31 (some (r_31, v_refusal_31, v_notes_count - 1))))
set_option maxHeartbeats 4000000 in
set_option maxRecDepth 100000 in
theorem ctX10_strike (l : Launch) (E : EN) (h h_reader h_inn h_chosen h_night h_marks h_notes h_casts h_notes_book h_notes_sort h_notes_one h_notes_other : Nat) (v_marked : Int32) (v_refusal : Int32) (v_latestFault : Int32) (v_faultPlace : Int32) (v_notes_count : Int32) (N : Nat) (z : Int32 × Int32 × Int32) (hf : fX10_strike N v_notes_count = some z) : CTi l E yX10_strike cX10_strike 1 .boolean 1 21 [.ref h] (wX10_strike E h h_reader h_inn h_chosen h_night h_marks h_notes h_casts h_notes_book h_notes_sort h_notes_one h_notes_other v_marked v_refusal v_latestFault v_faultPlace v_notes_count) (z.1) (wX10_strike E h h_reader h_inn h_chosen h_night h_marks h_notes h_casts h_notes_book h_notes_sort h_notes_one h_notes_other v_marked z.2.1 v_latestFault v_faultPlace z.2.2) := by
  intro sz
  refine ct_body (by decide) (Nat.le_of_ble_eq_true rfl) ?_
  intro p e s m args below meth c A ls hAe C hr hin hP hD hS hl
  have C : CX p s m args meth c cX10_strike RX10 1 E A := C
  have hl : lv_has ls 1 [(0, .ref h)] := hl
  have hx := C.1
  have hb := C.2.1
  rw [hAe]
  clear hAe
  obtain ⟨Q, hQ⟩ : ∃ Q, Q = MQ below (Qi E A (z.1) (wX10_strike E h h_reader h_inn h_chosen h_night h_marks h_notes h_casts h_notes_book h_notes_sort h_notes_one h_notes_other v_marked z.2.1 v_latestFault v_faultPlace z.2.2)) args s 0 0 A := ⟨_, rfl⟩
  rw [← hQ]
  unfold fX10_strike at hf
  refine lv_aload_n (pc := 0) hx hb dX10_strike_0 rfl (lv_at hl 0 rfl) ?_
  refine r_get (pc := 1) C hP 0 rfl fl_X10_43 rfl dX10_strike_1 ?_
  refine r_get (pc := 4) C hP 1 rfl fl_X10_256 rfl dX10_strike_4 ?_
  refine lv_if_ne (pc := 7) (tgt := 17) hx hb dX10_strike_7 (by decide) (fun c_7 => ?_) (fun c_7 => ?_)
  · replace hf := it_f c_7 hf
    refine lv_aload_n (pc := 17) hx hb dX10_strike_17 rfl (lv_at hl 0 rfl) ?_
    refine r_get (pc := 18) C hP 0 rfl fl_X10_43 rfl dX10_strike_18 ?_
    refine lv_dup (pc := 21) hx hb dX10_strike_21 rfl ?_
    refine r_get (pc := 22) C hP 1 rfl fl_X10_256 rfl dX10_strike_22 ?_
    refine lv_iconst (pc := 25) (v := 1) hx hb dX10_strike_25 (by decide) ?_
    refine lv_isub (pc := 26) hx hb dX10_strike_26 ?_
    refine r_put (pc := 27) (ws' := (wX10_strike E h h_reader h_inn h_chosen h_night h_marks h_notes h_casts h_notes_book h_notes_sort h_notes_one h_notes_other v_marked v_refusal v_latestFault v_faultPlace (v_notes_count - 1))) C hP hD hS 1 rfl fl_X10_256 rfl rfl (Nat.le_of_ble_eq_true rfl) rfl dX10_strike_27 ?_
    clear hP hD hS; intro H locs hP hD hS
    refine lv_aload_n (pc := 30) hx hb dX10_strike_30 rfl (lv_at hl 0 rfl) ?_
    obtain ⟨r_31, v_refusal_31, hc_31, hf⟩ := bd2 hf
    refine r_dalVi (pc := 31) (ws' := (wX10_strike E h h_reader h_inn h_chosen h_night h_marks h_notes h_casts h_notes_book h_notes_sort h_notes_one h_notes_other v_marked v_refusal_31 v_latestFault v_faultPlace (v_notes_count - 1))) (As := []) (rest := []) C (ctX10_agree l E h h_reader h_inn h_chosen h_night h_marks h_notes h_casts v_marked v_refusal v_latestFault v_faultPlace N (r_31, v_refusal_31) hc_31) ml_X10_163 ⟨Nat.le_of_ble_eq_true rfl, Nat.le_of_ble_eq_true rfl⟩ hP hD hS 0 rfl rfl rfl [0] [2, 1] 2 rfl rfl rfl rfl rfl rfl rfl hl.1 rfl (Nat.le_of_ble_eq_true rfl) ⟨Nat.zero_le _, Nat.zero_le _⟩ dX10_strike_31 ?_
    clear hP hD hS; intro H locs hP hD hS
    obtain ⟨hz_34, hf⟩ := zg_s hf
    cases hf
    rw [hQ]
    exact r_zret C hr hP hD hS hz_34 rfl dX10_strike_34
  · replace hf := it_t c_7 hf
    refine lv_aload_n (pc := 10) hx hb dX10_strike_10 rfl (lv_at hl 0 rfl) ?_
    refine lv_bipush (pc := 11) (v := 6) hx hb dX10_strike_11 (by decide) ?_
    obtain ⟨r_13, v_refusal_13, hc_13, hf⟩ := bd2 hf
    refine r_dalVi (pc := 13) (ws' := (wX10_strike E h h_reader h_inn h_chosen h_night h_marks h_notes h_casts h_notes_book h_notes_sort h_notes_one h_notes_other v_marked v_refusal_13 v_latestFault v_faultPlace v_notes_count)) (As := [.int 6]) (rest := []) C (ctX10_deny l E h h_reader h_inn h_chosen h_night h_marks h_notes h_casts v_marked v_refusal v_latestFault v_faultPlace N 6 (r_13, v_refusal_13) hc_13) ml_X10_152 ⟨Nat.le_of_ble_eq_true rfl, Nat.le_of_ble_eq_true rfl⟩ hP hD hS 0 rfl rfl rfl [0] [2, 1] 2 rfl rfl rfl rfl rfl rfl rfl hl.1 rfl (Nat.le_of_ble_eq_true rfl) ⟨Nat.zero_le _, Nat.zero_le _⟩ dX10_strike_13 ?_
    clear hP hD hS; intro H locs hP hD hS
    obtain ⟨hz_16, hf⟩ := zg_s hf
    cases hf
    rw [hQ]
    exact r_zret C hr hP hD hS hz_16 rfl dX10_strike_16
def wX10_areBooks (E : EN) : va_W := []
def fX10_areBooks (N : Nat) (p0 : Int32) : Option Int32 := (fX10_isBelow N p0 4).bind (un1 fun (r_2 : Int32) => zg r_2 (some r_2))
set_option maxHeartbeats 4000000 in
set_option maxRecDepth 100000 in
theorem ctX10_areBooks (l : Launch) (E : EN) (N : Nat) (p0 : Int32) (z : Int32) (hf : fX10_areBooks N p0 = some z) : CTi l E yX10_areBooks cX10_areBooks 1 .boolean 1 21 [.int p0] (wX10_areBooks E) (z) (wX10_areBooks E) := by
  intro sz
  refine ct_body (by decide) (Nat.le_of_ble_eq_true rfl) ?_
  intro p e s m args below meth c A ls hAe C hr hin hP hD hS hl
  have C : CX p s m args meth c cX10_areBooks RX10 1 E A := C
  have hl : lv_has ls 1 [(0, .int p0)] := hl
  have hx := C.1
  have hb := C.2.1
  rw [hAe]
  clear hAe
  obtain ⟨Q, hQ⟩ : ∃ Q, Q = MQ below (Qi E A (z) (wX10_areBooks E)) args s 0 0 A := ⟨_, rfl⟩
  rw [← hQ]
  unfold fX10_areBooks at hf
  refine lv_iload_n (pc := 0) hx hb dX10_areBooks_0 rfl (lv_at hl 0 rfl) ?_
  refine lv_iconst (pc := 1) (v := 4) hx hb dX10_areBooks_1 (by decide) ?_
  obtain ⟨r_2, hc_2, hf⟩ := bd1 hf
  refine r_dalSi (pc := 2) (Cn := "") (h := 0) (ws' := (wX10_areBooks E)) (As := [.int p0, .int 4]) (rest := []) C (ctX10_isBelow l E N p0 4 r_2 hc_2) ml_X10_121 ⟨Nat.le_of_ble_eq_true rfl, Nat.le_of_ble_eq_true rfl⟩ hP hD hS [] [] 0 rfl rfl rfl rfl rfl rfl rfl hl.1 rfl (Nat.le_of_ble_eq_true rfl) ⟨Nat.zero_le _, Nat.zero_le _⟩ dX10_areBooks_2 ?_
  clear hP hD hS; intro H locs hP hD hS
  obtain ⟨hz_5, hf⟩ := zg_s hf
  cases hf
  rw [hQ]
  exact r_zret C hr hP hD hS hz_5 rfl dX10_areBooks_5
def wX3_wasHeard (E : EN) (h h_rows : Nat) (v_rows : Nat → Int64) : va_W := [(h, .inr (3, [.ref h_rows])), (h_rows, aJ E 256 v_rows)]
def fX3_wasHeard (N : Nat) (p0 : Int32) (p1 : Int32) (p2 : Int32) (v_rows : Nat → Int64) : Option Int32 := gd ((p0 * 4) + p1) 256 ((fX10_isBitSet N (v_rows ((p0 * 4) + p1).toNatClampNeg) p2).bind (un1 fun (r_11 : Int32) => zg r_11 (some r_11)))
set_option maxHeartbeats 4000000 in
set_option maxRecDepth 100000 in
theorem ctX3_wasHeard (l : Launch) (E : EN) (h h_rows : Nat) (v_rows : Nat → Int64) (N : Nat) (p0 : Int32) (p1 : Int32) (p2 : Int32) (z : Int32) (hf : fX3_wasHeard N p0 p1 p2 v_rows = some z) : CTi l E yX3_wasHeard cX3_wasHeard 4 .boolean 1 22 [.ref h, .int p0, .int p1, .int p2] (wX3_wasHeard E h h_rows v_rows) (z) (wX3_wasHeard E h h_rows v_rows) := by
  intro sz
  refine ct_body (by decide) (Nat.le_of_ble_eq_true rfl) ?_
  intro p e s m args below meth c A ls hAe C hr hin hP hD hS hl
  have C : CX p s m args meth c cX3_wasHeard RX3 4 E A := C
  have hl : lv_has ls 4 [(0, .ref h), (1, .int p0), (2, .int p1), (3, .int p2)] := hl
  have hx := C.1
  have hb := C.2.1
  rw [hAe]
  clear hAe
  obtain ⟨Q, hQ⟩ : ∃ Q, Q = MQ below (Qi E A (z) (wX3_wasHeard E h h_rows v_rows)) args s 0 0 A := ⟨_, rfl⟩
  rw [← hQ]
  unfold fX3_wasHeard at hf
  refine lv_aload_n (pc := 0) hx hb dX3_wasHeard_0 rfl (lv_at hl 0 rfl) ?_
  refine r_get (pc := 1) C hP 0 rfl fl_X3_11 rfl dX3_wasHeard_1 ?_
  refine lv_iload_n (pc := 4) hx hb dX3_wasHeard_4 rfl (lv_at hl 1 rfl) ?_
  refine lv_iconst (pc := 5) (v := 4) hx hb dX3_wasHeard_5 (by decide) ?_
  refine lv_imul (pc := 6) hx hb dX3_wasHeard_6 ?_
  refine lv_iload_n (pc := 7) hx hb dX3_wasHeard_7 rfl (lv_at hl 2 rfl) ?_
  refine lv_iadd (pc := 8) hx hb dX3_wasHeard_8 ?_
  obtain ⟨hi_9, hf⟩ := gd_s hf
  refine r_lald (pc := 9) C hP 1 rfl hi_9 dX3_wasHeard_9 ?_
  refine lv_iload_n (pc := 10) hx hb dX3_wasHeard_10 rfl (lv_at hl 3 rfl) ?_
  obtain ⟨r_11, hc_11, hf⟩ := bd1 hf
  refine r_dalSi (pc := 11) (Cn := "") (h := 0) (ws' := (wX3_wasHeard E h h_rows v_rows)) (As := [.long (v_rows ((p0 * 4) + p1).toNatClampNeg), .int p2]) (rest := []) C (ctX10_isBitSet l E N (v_rows ((p0 * 4) + p1).toNatClampNeg) p2 r_11 hc_11) ml_X3_73 ⟨Nat.le_of_ble_eq_true rfl, Nat.le_of_ble_eq_true rfl⟩ hP hD hS [] [0, 1] 2 rfl rfl rfl rfl rfl rfl rfl hl.1 rfl (Nat.le_of_ble_eq_true rfl) ⟨Nat.zero_le _, Nat.zero_le _⟩ dX3_wasHeard_11 ?_
  clear hP hD hS; intro H locs hP hD hS
  obtain ⟨hz_14, hf⟩ := zg_s hf
  cases hf
  rw [hQ]
  exact r_zret C hr hP hD hS hz_14 rfl dX3_wasHeard_14
def wX3_roomOfThing (E : EN) (h h_rows : Nat) (v_rows : Nat → Int64) : va_W := [(h, .inr (3, [.ref h_rows])), (h_rows, aJ E 256 v_rows)]
def fX3_roomOfThing (N : Nat) (p0 : Int32) (p1 : Int32) (v_rows : Nat → Int64) : Option Int32 := gd ((p0 * 4) + 3) 256 (some (((((v_rows ((p0 * 4) + 3).toNatClampNeg).toUInt64 >>> (((4 * p1) + 1).toInt64.toUInt64 &&& Int64.toUInt64 63)).toInt64).toInt32) &&& 7))
set_option maxHeartbeats 4000000 in
set_option maxRecDepth 100000 in
theorem ctX3_roomOfThing (l : Launch) (E : EN) (h h_rows : Nat) (v_rows : Nat → Int64) (N : Nat) (p0 : Int32) (p1 : Int32) (z : Int32) (hf : fX3_roomOfThing N p0 p1 v_rows = some z) : CTi l E yX3_roomOfThing cX3_roomOfThing 3 .int 0 0 [.ref h, .int p0, .int p1] (wX3_roomOfThing E h h_rows v_rows) (z) (wX3_roomOfThing E h h_rows v_rows) := by
  intro sz
  refine ct_body (by decide) (Nat.le_of_ble_eq_true rfl) ?_
  intro p e s m args below meth c A ls hAe C hr hin hP hD hS hl
  have C : CX p s m args meth c cX3_roomOfThing RX3 3 E A := C
  have hl : lv_has ls 3 [(0, .ref h), (1, .int p0), (2, .int p1)] := hl
  have hx := C.1
  have hb := C.2.1
  rw [hAe]
  clear hAe
  obtain ⟨Q, hQ⟩ : ∃ Q, Q = MQ below (Qi E A (z) (wX3_roomOfThing E h h_rows v_rows)) args s 0 0 A := ⟨_, rfl⟩
  rw [← hQ]
  unfold fX3_roomOfThing at hf
  refine lv_aload_n (pc := 0) hx hb dX3_roomOfThing_0 rfl (lv_at hl 0 rfl) ?_
  refine r_get (pc := 1) C hP 0 rfl fl_X3_11 rfl dX3_roomOfThing_1 ?_
  refine lv_iload_n (pc := 4) hx hb dX3_roomOfThing_4 rfl (lv_at hl 1 rfl) ?_
  refine lv_iconst (pc := 5) (v := 4) hx hb dX3_roomOfThing_5 (by decide) ?_
  refine lv_imul (pc := 6) hx hb dX3_roomOfThing_6 ?_
  refine lv_iconst (pc := 7) (v := 3) hx hb dX3_roomOfThing_7 (by decide) ?_
  refine lv_iadd (pc := 8) hx hb dX3_roomOfThing_8 ?_
  obtain ⟨hi_9, hf⟩ := gd_s hf
  refine r_lald (pc := 9) C hP 1 rfl hi_9 dX3_roomOfThing_9 ?_
  refine lv_iconst (pc := 10) (v := 4) hx hb dX3_roomOfThing_10 (by decide) ?_
  refine lv_iload_n (pc := 11) hx hb dX3_roomOfThing_11 rfl (lv_at hl 2 rfl) ?_
  refine lv_imul (pc := 12) hx hb dX3_roomOfThing_12 ?_
  refine lv_iconst (pc := 13) (v := 1) hx hb dX3_roomOfThing_13 (by decide) ?_
  refine lv_iadd (pc := 14) hx hb dX3_roomOfThing_14 ?_
  refine lv_lushr (pc := 15) (v := ((v_rows ((p0 * 4) + 3).toNatClampNeg).toUInt64 >>> (((4 * p1) + 1).toInt64.toUInt64 &&& Int64.toUInt64 63)).toInt64) hx hb dX3_roomOfThing_15 rfl ?_
  refine lv_l2i (pc := 16) (v := (((v_rows ((p0 * 4) + 3).toNatClampNeg).toUInt64 >>> (((4 * p1) + 1).toInt64.toUInt64 &&& Int64.toUInt64 63)).toInt64).toInt32) hx hb dX3_roomOfThing_16 rfl ?_
  refine lv_bipush (pc := 17) (v := 7) hx hb dX3_roomOfThing_17 (by decide) ?_
  refine lv_iand (pc := 19) hx hb dX3_roomOfThing_19 ?_
  cases hf
  rw [hQ]
  exact r_iret C hr hP hD hS rfl dX3_roomOfThing_20
def wX3_howIsDoor (E : EN) (h h_rows : Nat) (v_rows : Nat → Int64) : va_W := [(h, .inr (3, [.ref h_rows])), (h_rows, aJ E 256 v_rows)]
def fX3_howIsDoor (N : Nat) (p0 : Int32) (p1 : Int32) (v_rows : Nat → Int64) : Option Int32 := gd ((p0 * 4) + 3) 256 (some (((((v_rows ((p0 * 4) + 3).toNatClampNeg).toUInt64 >>> ((16 + (2 * p1)).toInt64.toUInt64 &&& Int64.toUInt64 63)).toInt64).toInt32) &&& 3))
set_option maxHeartbeats 4000000 in
set_option maxRecDepth 100000 in
theorem ctX3_howIsDoor (l : Launch) (E : EN) (h h_rows : Nat) (v_rows : Nat → Int64) (N : Nat) (p0 : Int32) (p1 : Int32) (z : Int32) (hf : fX3_howIsDoor N p0 p1 v_rows = some z) : CTi l E yX3_howIsDoor cX3_howIsDoor 3 .int 0 0 [.ref h, .int p0, .int p1] (wX3_howIsDoor E h h_rows v_rows) (z) (wX3_howIsDoor E h h_rows v_rows) := by
  intro sz
  refine ct_body (by decide) (Nat.le_of_ble_eq_true rfl) ?_
  intro p e s m args below meth c A ls hAe C hr hin hP hD hS hl
  have C : CX p s m args meth c cX3_howIsDoor RX3 3 E A := C
  have hl : lv_has ls 3 [(0, .ref h), (1, .int p0), (2, .int p1)] := hl
  have hx := C.1
  have hb := C.2.1
  rw [hAe]
  clear hAe
  obtain ⟨Q, hQ⟩ : ∃ Q, Q = MQ below (Qi E A (z) (wX3_howIsDoor E h h_rows v_rows)) args s 0 0 A := ⟨_, rfl⟩
  rw [← hQ]
  unfold fX3_howIsDoor at hf
  refine lv_aload_n (pc := 0) hx hb dX3_howIsDoor_0 rfl (lv_at hl 0 rfl) ?_
  refine r_get (pc := 1) C hP 0 rfl fl_X3_11 rfl dX3_howIsDoor_1 ?_
  refine lv_iload_n (pc := 4) hx hb dX3_howIsDoor_4 rfl (lv_at hl 1 rfl) ?_
  refine lv_iconst (pc := 5) (v := 4) hx hb dX3_howIsDoor_5 (by decide) ?_
  refine lv_imul (pc := 6) hx hb dX3_howIsDoor_6 ?_
  refine lv_iconst (pc := 7) (v := 3) hx hb dX3_howIsDoor_7 (by decide) ?_
  refine lv_iadd (pc := 8) hx hb dX3_howIsDoor_8 ?_
  obtain ⟨hi_9, hf⟩ := gd_s hf
  refine r_lald (pc := 9) C hP 1 rfl hi_9 dX3_howIsDoor_9 ?_
  refine lv_bipush (pc := 10) (v := 16) hx hb dX3_howIsDoor_10 (by decide) ?_
  refine lv_iconst (pc := 12) (v := 2) hx hb dX3_howIsDoor_12 (by decide) ?_
  refine lv_iload_n (pc := 13) hx hb dX3_howIsDoor_13 rfl (lv_at hl 2 rfl) ?_
  refine lv_imul (pc := 14) hx hb dX3_howIsDoor_14 ?_
  refine lv_iadd (pc := 15) hx hb dX3_howIsDoor_15 ?_
  refine lv_lushr (pc := 16) (v := ((v_rows ((p0 * 4) + 3).toNatClampNeg).toUInt64 >>> ((16 + (2 * p1)).toInt64.toUInt64 &&& Int64.toUInt64 63)).toInt64) hx hb dX3_howIsDoor_16 rfl ?_
  refine lv_l2i (pc := 17) (v := (((v_rows ((p0 * 4) + 3).toNatClampNeg).toUInt64 >>> ((16 + (2 * p1)).toInt64.toUInt64 &&& Int64.toUInt64 63)).toInt64).toInt32) hx hb dX3_howIsDoor_17 rfl ?_
  refine lv_iconst (pc := 18) (v := 3) hx hb dX3_howIsDoor_18 (by decide) ?_
  refine lv_iand (pc := 19) hx hb dX3_howIsDoor_19 ?_
  cases hf
  rw [hQ]
  exact r_iret C hr hP hD hS rfl dX3_howIsDoor_20
def wX5_isSo (E : EN) (h h_book h_sort h_one h_other a1 a1_rows : Nat) (v_count : Int32) (v_sort : Nat → Int32) (v_one : Nat → Int32) (v_a1_rows : Nat → Int64) (v_other : Nat → Int32) : va_W := [(h, .inr (5, [.ref h_book, .ref h_sort, .ref h_one, .ref h_other, .int v_count])), (h_sort, aI E 20 v_sort), (h_one, aI E 20 v_one), (a1, .inr (3, [.ref a1_rows])), (a1_rows, aJ E 256 v_a1_rows), (h_other, aI E 20 v_other)]
def fX5_isSo (N : Nat) (p0 : Int32) (p2 : Int32) (v_sort : Nat → Int32) (v_one : Nat → Int32) (v_a1_rows : Nat → Int64) (v_other : Nat → Int32) : Option Int32 := gd p0 20 (if (v_sort p0.toNatClampNeg) = 0 then (gd p0 20 (gd p0 20 ((fX3_wasHeard N p2 (v_one p0.toNatClampNeg) (v_other p0.toNatClampNeg) v_a1_rows).bind (un1 fun (r_46 : Int32) => zg r_46 (some r_46))))) else (if (v_sort p0.toNatClampNeg) = 1 then (gd p0 20 (gd p0 20 ((fX3_wasHeard N p2 (v_one p0.toNatClampNeg) (v_other p0.toNatClampNeg) v_a1_rows).bind (un1 fun (r_64 : Int32) => if r_64 = 0 then (some 1) else (some 0))))) else (if (v_sort p0.toNatClampNeg) = 2 then (gd p0 20 ((fX3_roomOfThing N p2 (v_one p0.toNatClampNeg) v_a1_rows).bind (un1 fun (r_84 : Int32) => gd p0 20 (if r_84 = (v_other p0.toNatClampNeg) then (some 1) else (some 0))))) else (gd p0 20 ((fX3_howIsDoor N p2 (v_one p0.toNatClampNeg) v_a1_rows).bind (un1 fun (r_110 : Int32) => gd p0 20 (if r_110 = (v_other p0.toNatClampNeg) then (some 1) else (some 0))))))))
set_option maxHeartbeats 4000000 in
set_option maxRecDepth 100000 in
theorem ctX5_isSo (l : Launch) (E : EN) (h h_book h_sort h_one h_other a1 a1_rows : Nat) (v_count : Int32) (v_sort : Nat → Int32) (v_one : Nat → Int32) (v_a1_rows : Nat → Int64) (v_other : Nat → Int32) (N : Nat) (p0 : Int32) (p2 : Int32) (z : Int32) (hf : fX5_isSo N p0 p2 v_sort v_one v_a1_rows v_other = some z) : CTi l E yX5_isSo cX5_isSo 4 .boolean 2 45 [.ref h, .int p0, .ref a1, .int p2] (wX5_isSo E h h_book h_sort h_one h_other a1 a1_rows v_count v_sort v_one v_a1_rows v_other) (z) (wX5_isSo E h h_book h_sort h_one h_other a1 a1_rows v_count v_sort v_one v_a1_rows v_other) := by
  intro sz
  refine ct_body (by decide) (Nat.le_of_ble_eq_true rfl) ?_
  intro p e s m args below meth c A ls hAe C hr hin hP hD hS hl
  have C : CX p s m args meth c cX5_isSo RX5 4 E A := C
  have hl : lv_has ls 4 [(0, .ref h), (1, .int p0), (2, .ref a1), (3, .int p2)] := hl
  have hx := C.1
  have hb := C.2.1
  rw [hAe]
  clear hAe
  obtain ⟨Q, hQ⟩ : ∃ Q, Q = MQ below (Qi E A (z) (wX5_isSo E h h_book h_sort h_one h_other a1 a1_rows v_count v_sort v_one v_a1_rows v_other)) args s 0 0 A := ⟨_, rfl⟩
  rw [← hQ]
  unfold fX5_isSo at hf
  refine lv_aload_n (pc := 0) hx hb dX5_isSo_0 rfl (lv_at hl 0 rfl) ?_
  refine r_get (pc := 1) C hP 0 rfl fl_X5_15 rfl dX5_isSo_1 ?_
  refine lv_iload_n (pc := 4) hx hb dX5_isSo_4 rfl (lv_at hl 1 rfl) ?_
  obtain ⟨hi_5, hf⟩ := gd_s hf
  refine r_iald (pc := 5) C hP 1 rfl hi_5 dX5_isSo_5 ?_
  by_cases c_6_0 : (v_sort p0.toNatClampNeg) = 0
  · replace hf := it_t c_6_0 hf
    refine lv_tableIn (pc := 6) (off := 26) (tgt := 32) hx hb dX5_isSo_6 (by rw [c_6_0]; decide) (by rw [c_6_0]; decide) (by rw [c_6_0]; rfl) (by decide) ?_
    refine lv_aload_n (pc := 32) hx hb dX5_isSo_32 rfl (lv_at hl 2 rfl) ?_
    refine lv_iload_n (pc := 33) hx hb dX5_isSo_33 rfl (lv_at hl 3 rfl) ?_
    refine lv_aload_n (pc := 34) hx hb dX5_isSo_34 rfl (lv_at hl 0 rfl) ?_
    refine r_get (pc := 35) C hP 0 rfl fl_X5_18 rfl dX5_isSo_35 ?_
    refine lv_iload_n (pc := 38) hx hb dX5_isSo_38 rfl (lv_at hl 1 rfl) ?_
    obtain ⟨hi_39, hf⟩ := gd_s hf
    refine r_iald (pc := 39) C hP 2 rfl hi_39 dX5_isSo_39 ?_
    refine lv_aload_n (pc := 40) hx hb dX5_isSo_40 rfl (lv_at hl 0 rfl) ?_
    refine r_get (pc := 41) C hP 0 rfl fl_X5_21 rfl dX5_isSo_41 ?_
    refine lv_iload_n (pc := 44) hx hb dX5_isSo_44 rfl (lv_at hl 1 rfl) ?_
    obtain ⟨hi_45, hf⟩ := gd_s hf
    refine r_iald (pc := 45) C hP 5 rfl hi_45 dX5_isSo_45 ?_
    obtain ⟨r_46, hc_46, hf⟩ := bd1 hf
    refine r_dalVi (pc := 46) (ws' := (wX5_isSo E h h_book h_sort h_one h_other a1 a1_rows v_count v_sort v_one v_a1_rows v_other)) (As := [.int p2, .int (v_one p0.toNatClampNeg), .int (v_other p0.toNatClampNeg)]) (rest := []) C (ctX3_wasHeard l E a1 a1_rows v_a1_rows N p2 (v_one p0.toNatClampNeg) (v_other p0.toNatClampNeg) r_46 hc_46) ml_X5_36 ⟨Nat.le_of_ble_eq_true rfl, Nat.le_of_ble_eq_true rfl⟩ hP hD hS 3 rfl rfl rfl [3, 4] [0, 1, 2, 6, 7, 5] 6 rfl rfl rfl rfl rfl rfl rfl hl.1 rfl (Nat.le_of_ble_eq_true rfl) ⟨Nat.zero_le _, Nat.zero_le _⟩ dX5_isSo_46 ?_
    clear hP hD hS; intro H locs hP hD hS
    obtain ⟨hz_49, hf⟩ := zg_s hf
    cases hf
    rw [hQ]
    exact r_zret C hr hP hD hS hz_49 rfl dX5_isSo_49
  · replace hf := it_f c_6_0 hf
    by_cases c_6_1 : (v_sort p0.toNatClampNeg) = 1
    · replace hf := it_t c_6_1 hf
      refine lv_tableIn (pc := 6) (off := 44) (tgt := 50) hx hb dX5_isSo_6 (by rw [c_6_1]; decide) (by rw [c_6_1]; decide) (by rw [c_6_1]; rfl) (by decide) ?_
      refine lv_aload_n (pc := 50) hx hb dX5_isSo_50 rfl (lv_at hl 2 rfl) ?_
      refine lv_iload_n (pc := 51) hx hb dX5_isSo_51 rfl (lv_at hl 3 rfl) ?_
      refine lv_aload_n (pc := 52) hx hb dX5_isSo_52 rfl (lv_at hl 0 rfl) ?_
      refine r_get (pc := 53) C hP 0 rfl fl_X5_18 rfl dX5_isSo_53 ?_
      refine lv_iload_n (pc := 56) hx hb dX5_isSo_56 rfl (lv_at hl 1 rfl) ?_
      obtain ⟨hi_57, hf⟩ := gd_s hf
      refine r_iald (pc := 57) C hP 2 rfl hi_57 dX5_isSo_57 ?_
      refine lv_aload_n (pc := 58) hx hb dX5_isSo_58 rfl (lv_at hl 0 rfl) ?_
      refine r_get (pc := 59) C hP 0 rfl fl_X5_21 rfl dX5_isSo_59 ?_
      refine lv_iload_n (pc := 62) hx hb dX5_isSo_62 rfl (lv_at hl 1 rfl) ?_
      obtain ⟨hi_63, hf⟩ := gd_s hf
      refine r_iald (pc := 63) C hP 5 rfl hi_63 dX5_isSo_63 ?_
      obtain ⟨r_64, hc_64, hf⟩ := bd1 hf
      refine r_dalVi (pc := 64) (ws' := (wX5_isSo E h h_book h_sort h_one h_other a1 a1_rows v_count v_sort v_one v_a1_rows v_other)) (As := [.int p2, .int (v_one p0.toNatClampNeg), .int (v_other p0.toNatClampNeg)]) (rest := []) C (ctX3_wasHeard l E a1 a1_rows v_a1_rows N p2 (v_one p0.toNatClampNeg) (v_other p0.toNatClampNeg) r_64 hc_64) ml_X5_36 ⟨Nat.le_of_ble_eq_true rfl, Nat.le_of_ble_eq_true rfl⟩ hP hD hS 3 rfl rfl rfl [3, 4] [0, 1, 2, 6, 7, 5] 6 rfl rfl rfl rfl rfl rfl rfl hl.1 rfl (Nat.le_of_ble_eq_true rfl) ⟨Nat.zero_le _, Nat.zero_le _⟩ dX5_isSo_64 ?_
      clear hP hD hS; intro H locs hP hD hS
      refine lv_if_ne (pc := 67) (tgt := 74) hx hb dX5_isSo_67 (by decide) (fun c_67 => ?_) (fun c_67 => ?_)
      · replace hf := it_f c_67 hf
        refine lv_iconst (pc := 74) (v := 0) hx hb dX5_isSo_74 (by decide) ?_
        cases hf
        rw [hQ]
        exact r_zret C hr hP hD hS (Or.inl rfl) rfl dX5_isSo_75
      · replace hf := it_t c_67 hf
        refine lv_iconst (pc := 70) (v := 1) hx hb dX5_isSo_70 (by decide) ?_
        refine lv_goto (pc := 71) (tgt := 75) hx hb dX5_isSo_71 (by decide) ?_
        cases hf
        rw [hQ]
        exact r_zret C hr hP hD hS (Or.inr rfl) rfl dX5_isSo_75
    · replace hf := it_f c_6_1 hf
      by_cases c_6_2 : (v_sort p0.toNatClampNeg) = 2
      · replace hf := it_t c_6_2 hf
        refine lv_tableIn (pc := 6) (off := 70) (tgt := 76) hx hb dX5_isSo_6 (by rw [c_6_2]; decide) (by rw [c_6_2]; decide) (by rw [c_6_2]; rfl) (by decide) ?_
        refine lv_aload_n (pc := 76) hx hb dX5_isSo_76 rfl (lv_at hl 2 rfl) ?_
        refine lv_iload_n (pc := 77) hx hb dX5_isSo_77 rfl (lv_at hl 3 rfl) ?_
        refine lv_aload_n (pc := 78) hx hb dX5_isSo_78 rfl (lv_at hl 0 rfl) ?_
        refine r_get (pc := 79) C hP 0 rfl fl_X5_18 rfl dX5_isSo_79 ?_
        refine lv_iload_n (pc := 82) hx hb dX5_isSo_82 rfl (lv_at hl 1 rfl) ?_
        obtain ⟨hi_83, hf⟩ := gd_s hf
        refine r_iald (pc := 83) C hP 2 rfl hi_83 dX5_isSo_83 ?_
        obtain ⟨r_84, hc_84, hf⟩ := bd1 hf
        refine r_dalVi (pc := 84) (ws' := (wX5_isSo E h h_book h_sort h_one h_other a1 a1_rows v_count v_sort v_one v_a1_rows v_other)) (As := [.int p2, .int (v_one p0.toNatClampNeg)]) (rest := []) C (ctX3_roomOfThing l E a1 a1_rows v_a1_rows N p2 (v_one p0.toNatClampNeg) r_84 hc_84) ml_X5_42 ⟨Nat.le_of_ble_eq_true rfl, Nat.le_of_ble_eq_true rfl⟩ hP hD hS 3 rfl rfl rfl [3, 4] [0, 1, 2, 6, 7, 5] 6 rfl rfl rfl rfl rfl rfl rfl hl.1 rfl (Nat.le_of_ble_eq_true rfl) ⟨Nat.zero_le _, Nat.zero_le _⟩ dX5_isSo_84 ?_
        clear hP hD hS; intro H locs hP hD hS
        refine lv_aload_n (pc := 87) hx hb dX5_isSo_87 rfl (lv_at hl 0 rfl) ?_
        refine r_get (pc := 88) C hP 0 rfl fl_X5_21 rfl dX5_isSo_88 ?_
        refine lv_iload_n (pc := 91) hx hb dX5_isSo_91 rfl (lv_at hl 1 rfl) ?_
        obtain ⟨hi_92, hf⟩ := gd_s hf
        refine r_iald (pc := 92) C hP 5 rfl hi_92 dX5_isSo_92 ?_
        refine lv_icmp_ne (pc := 93) (tgt := 100) hx hb dX5_isSo_93 (by decide) (fun c_93 => ?_) (fun c_93 => ?_)
        · replace hf := it_f c_93 hf
          refine lv_iconst (pc := 100) (v := 0) hx hb dX5_isSo_100 (by decide) ?_
          cases hf
          rw [hQ]
          exact r_zret C hr hP hD hS (Or.inl rfl) rfl dX5_isSo_101
        · replace hf := it_t c_93 hf
          refine lv_iconst (pc := 96) (v := 1) hx hb dX5_isSo_96 (by decide) ?_
          refine lv_goto (pc := 97) (tgt := 101) hx hb dX5_isSo_97 (by decide) ?_
          cases hf
          rw [hQ]
          exact r_zret C hr hP hD hS (Or.inr rfl) rfl dX5_isSo_101
      · replace hf := it_f c_6_2 hf
        refine lv_tableOut (pc := 6) (tgt := 102) hx hb dX5_isSo_6 (by have g0 := lv_neT (a := 0) c_6_0 (by decide); have g1 := lv_neT (a := 1) c_6_1 (by decide); have g2 := lv_neT (a := 2) c_6_2 (by decide); omega) (by decide) ?_
        refine lv_aload_n (pc := 102) hx hb dX5_isSo_102 rfl (lv_at hl 2 rfl) ?_
        refine lv_iload_n (pc := 103) hx hb dX5_isSo_103 rfl (lv_at hl 3 rfl) ?_
        refine lv_aload_n (pc := 104) hx hb dX5_isSo_104 rfl (lv_at hl 0 rfl) ?_
        refine r_get (pc := 105) C hP 0 rfl fl_X5_18 rfl dX5_isSo_105 ?_
        refine lv_iload_n (pc := 108) hx hb dX5_isSo_108 rfl (lv_at hl 1 rfl) ?_
        obtain ⟨hi_109, hf⟩ := gd_s hf
        refine r_iald (pc := 109) C hP 2 rfl hi_109 dX5_isSo_109 ?_
        obtain ⟨r_110, hc_110, hf⟩ := bd1 hf
        refine r_dalVi (pc := 110) (ws' := (wX5_isSo E h h_book h_sort h_one h_other a1 a1_rows v_count v_sort v_one v_a1_rows v_other)) (As := [.int p2, .int (v_one p0.toNatClampNeg)]) (rest := []) C (ctX3_howIsDoor l E a1 a1_rows v_a1_rows N p2 (v_one p0.toNatClampNeg) r_110 hc_110) ml_X5_46 ⟨Nat.le_of_ble_eq_true rfl, Nat.le_of_ble_eq_true rfl⟩ hP hD hS 3 rfl rfl rfl [3, 4] [0, 1, 2, 6, 7, 5] 6 rfl rfl rfl rfl rfl rfl rfl hl.1 rfl (Nat.le_of_ble_eq_true rfl) ⟨Nat.zero_le _, Nat.zero_le _⟩ dX5_isSo_110 ?_
        clear hP hD hS; intro H locs hP hD hS
        refine lv_aload_n (pc := 113) hx hb dX5_isSo_113 rfl (lv_at hl 0 rfl) ?_
        refine r_get (pc := 114) C hP 0 rfl fl_X5_21 rfl dX5_isSo_114 ?_
        refine lv_iload_n (pc := 117) hx hb dX5_isSo_117 rfl (lv_at hl 1 rfl) ?_
        obtain ⟨hi_118, hf⟩ := gd_s hf
        refine r_iald (pc := 118) C hP 5 rfl hi_118 dX5_isSo_118 ?_
        refine lv_icmp_ne (pc := 119) (tgt := 126) hx hb dX5_isSo_119 (by decide) (fun c_119 => ?_) (fun c_119 => ?_)
        · replace hf := it_f c_119 hf
          refine lv_iconst (pc := 126) (v := 0) hx hb dX5_isSo_126 (by decide) ?_
          cases hf
          rw [hQ]
          exact r_zret C hr hP hD hS (Or.inl rfl) rfl dX5_isSo_127
        · replace hf := it_t c_119 hf
          refine lv_iconst (pc := 122) (v := 1) hx hb dX5_isSo_122 (by decide) ?_
          refine lv_goto (pc := 123) (tgt := 127) hx hb dX5_isSo_123 (by decide) ?_
          cases hf
          rw [hQ]
          exact r_zret C hr hP hD hS (Or.inr rfl) rfl dX5_isSo_127
def wX5_areSo (E : EN) (h h_book h_sort h_one h_other a1 a1_rows : Nat) (v_count : Int32) (v_book : Nat → Int32) (v_sort : Nat → Int32) (v_one : Nat → Int32) (v_a1_rows : Nat → Int64) (v_other : Nat → Int32) : va_W := [(h, .inr (5, [.ref h_book, .ref h_sort, .ref h_one, .ref h_other, .int v_count])), (h_book, aI E 20 v_book), (h_sort, aI E 20 v_sort), (h_one, aI E 20 v_one), (a1, .inr (3, [.ref a1_rows])), (a1_rows, aJ E 256 v_a1_rows), (h_other, aI E 20 v_other)]
def BX5_areSo_3 (v_count : Int32) (N : Nat) (p0 : Int32) (v_book : Nat → Int32) (p2 : Int32) (v_sort : Nat → Int32) (v_one : Nat → Int32) (v_a1_rows : Nat → Int64) (v_other : Nat → Int32) (rec3 : (Int32) → Option Int32) : (Int32) → Option Int32 := un1 fun (x3_4 : Int32) => if v_count ≤ x3_4 then (some 1) else (gd x3_4 20 ((fX10_isBitSet N p0.toInt64 (v_book x3_4.toNatClampNeg)).bind (un1 fun (r_21 : Int32) => jn (un0 (rec3 (x3_4 + 1))) (fun j40 => if r_21 = 0 then (j40 ()) else ((fX5_isSo N x3_4 p2 v_sort v_one v_a1_rows v_other).bind (un1 fun (r_32 : Int32) => if r_32 = 0 then (some 0) else (j40 ())))))))
def fX5_areSo (N : Nat) (p0 : Int32) (p2 : Int32) (v_count : Int32) (v_book : Nat → Int32) (v_sort : Nat → Int32) (v_one : Nat → Int32) (v_a1_rows : Nat → Int64) (v_other : Nat → Int32) : Option Int32 := lp (BX5_areSo_3 v_count N p0 v_book p2 v_sort v_one v_a1_rows v_other) N 0
set_option maxHeartbeats 4000000 in
set_option maxRecDepth 100000 in
theorem ctX5_areSo (l : Launch) (E : EN) (h h_book h_sort h_one h_other a1 a1_rows : Nat) (v_count : Int32) (v_book : Nat → Int32) (v_sort : Nat → Int32) (v_one : Nat → Int32) (v_a1_rows : Nat → Int64) (v_other : Nat → Int32) (N : Nat) (p0 : Int32) (p2 : Int32) (z : Int32) (hf : fX5_areSo N p0 p2 v_count v_book v_sort v_one v_a1_rows v_other = some z) : CTi l E yX5_areSo cX5_areSo 5 .boolean 3 68 [.ref h, .int p0, .ref a1, .int p2] (wX5_areSo E h h_book h_sort h_one h_other a1 a1_rows v_count v_book v_sort v_one v_a1_rows v_other) (z) (wX5_areSo E h h_book h_sort h_one h_other a1 a1_rows v_count v_book v_sort v_one v_a1_rows v_other) := by
  intro sz
  refine ct_body (by decide) (Nat.le_of_ble_eq_true rfl) ?_
  intro p e s m args below meth c A ls hAe C hr hin hP hD hS hl
  have C : CX p s m args meth c cX5_areSo RX5 5 E A := C
  have hl : lv_has ls 5 [(0, .ref h), (1, .int p0), (2, .ref a1), (3, .int p2)] := hl
  have hx := C.1
  have hb := C.2.1
  rw [hAe]
  clear hAe
  obtain ⟨Q, hQ⟩ : ∃ Q, Q = MQ below (Qi E A (z) (wX5_areSo E h h_book h_sort h_one h_other a1 a1_rows v_count v_book v_sort v_one v_a1_rows v_other)) args s 0 0 A := ⟨_, rfl⟩
  rw [← hQ]
  unfold fX5_areSo at hf
  refine lv_iconst (pc := 0) (v := 0) hx hb dX5_areSo_0 (by decide) ?_
  refine lv_istore (pc := 1) (lv' := [(4, .int 0), (0, .ref h), (1, .int p0), (2, .ref a1), (3, .int p2)]) hx hb dX5_areSo_1 hl (by decide) rfl (fun ls hl => ?_)
  have key3 : ∀ (n : Nat) (x3_4 : Int32) , lp (BX5_areSo_3 v_count N p0 v_book p2 v_sort v_one v_a1_rows v_other) n x3_4 = some z → AT p l e (rmOf 3 68) s m args below meth c E A Q 0 0 5 [(0, .ref h), (1, .int p0), (2, .ref a1), (3, .int p2), (4, .int x3_4)] (wX5_areSo E h h_book h_sort h_one h_other a1 a1_rows v_count v_book v_sort v_one v_a1_rows v_other) 3 [] := by
    intro n
    induction n with
    | zero => intro x3_4 hf; exact (lp_0 hf).elim
    | succ n ih3 =>
      intro x3_4 hf H locs ls hl hP hD hS
      replace hf := lp_s hf
      generalize lp (BX5_areSo_3 v_count N p0 v_book p2 v_sort v_one v_a1_rows v_other) n = rec3 at ih3 hf
      unfold BX5_areSo_3 at hf
      replace hf := un1_s hf
      refine lv_iload (pc := 3) hx hb dX5_areSo_3 (lv_at hl 4 rfl) ?_
      refine lv_aload_n (pc := 5) hx hb dX5_areSo_5 rfl (lv_at hl 0 rfl) ?_
      refine r_get (pc := 6) C hP 0 rfl fl_X5_24 rfl dX5_areSo_6 ?_
      refine lv_icmp_ge (pc := 9) (tgt := 46) hx hb dX5_areSo_9 (by decide) (fun c_9 => ?_) (fun c_9 => ?_)
      · replace hf := it_t c_9 hf
        refine lv_iconst (pc := 46) (v := 1) hx hb dX5_areSo_46 (by decide) ?_
        cases hf
        rw [hQ]
        exact r_zret C hr hP hD hS (Or.inr rfl) rfl dX5_areSo_47
      · replace hf := it_f c_9 hf
        refine lv_iload_n (pc := 12) hx hb dX5_areSo_12 rfl (lv_at hl 1 rfl) ?_
        refine lv_i2l (pc := 13) (v := p0.toInt64) hx hb dX5_areSo_13 rfl ?_
        refine lv_aload_n (pc := 14) hx hb dX5_areSo_14 rfl (lv_at hl 0 rfl) ?_
        refine r_get (pc := 15) C hP 0 rfl fl_X5_9 rfl dX5_areSo_15 ?_
        refine lv_iload (pc := 18) hx hb dX5_areSo_18 (lv_at hl 4 rfl) ?_
        obtain ⟨hi_20, hf⟩ := gd_s hf
        refine r_iald (pc := 20) C hP 1 rfl hi_20 dX5_areSo_20 ?_
        obtain ⟨r_21, hc_21, hf⟩ := bd1 hf
        refine r_dalSi (pc := 21) (Cn := "") (h := 0) (ws' := (wX5_areSo E h h_book h_sort h_one h_other a1 a1_rows v_count v_book v_sort v_one v_a1_rows v_other)) (As := [.long p0.toInt64, .int (v_book x3_4.toNatClampNeg)]) (rest := []) C (ctX10_isBitSet l E N p0.toInt64 (v_book x3_4.toNatClampNeg) r_21 hc_21) ml_X5_28 ⟨Nat.le_of_ble_eq_true rfl, Nat.le_of_ble_eq_true rfl⟩ hP hD hS [] [0, 1, 2, 3, 4, 5, 6] 7 rfl rfl rfl rfl rfl rfl rfl hl.1 rfl (Nat.le_of_ble_eq_true rfl) ⟨Nat.zero_le _, Nat.zero_le _⟩ dX5_areSo_21 ?_
        clear hP hD hS; intro H locs hP hD hS
        refine jnK hf (fun j40 ej40 hf => ?_)
        have hj40 : j40 () = some z → AT p l e (rmOf 3 68) s m args below meth c E A Q 0 0 5 [(0, .ref h), (1, .int p0), (2, .ref a1), (3, .int p2), (4, .int x3_4)] (wX5_areSo E h h_book h_sort h_one h_other a1 a1_rows v_count v_book v_sort v_one v_a1_rows v_other) 40 [] := by
          intro  hf H locs ls hl hP hD hS
          rw [ej40] at hf
          replace hf := un0_s hf
          refine lv_iinc (pc := 40) (v := x3_4 + 1) (lv' := [(4, .int (x3_4 + 1)), (0, .ref h), (1, .int p0), (2, .ref a1), (3, .int p2)]) hx hb dX5_areSo_40 hl (k := 4) rfl rfl (by decide) rfl (fun ls hl => ?_)
          refine lv_goto (pc := 43) (tgt := 3) hx hb dX5_areSo_43 (by decide) ?_
          exact ih3 (x3_4 + 1) hf _ _ _ (lv_sub hl [1, 2, 3, 4, 0] rfl) hP hD hS
        clear ej40
        refine lv_if_eq (pc := 24) (tgt := 40) hx hb dX5_areSo_24 (by decide) (fun c_24 => ?_) (fun c_24 => ?_)
        · replace hf := it_t c_24 hf
          exact hj40  hf _ _ _ (lv_sub hl [0, 1, 2, 3, 4] rfl) hP hD hS
        · replace hf := it_f c_24 hf
          refine lv_aload_n (pc := 27) hx hb dX5_areSo_27 rfl (lv_at hl 0 rfl) ?_
          refine lv_iload (pc := 28) hx hb dX5_areSo_28 (lv_at hl 4 rfl) ?_
          refine lv_aload_n (pc := 30) hx hb dX5_areSo_30 rfl (lv_at hl 2 rfl) ?_
          refine lv_iload_n (pc := 31) hx hb dX5_areSo_31 rfl (lv_at hl 3 rfl) ?_
          obtain ⟨r_32, hc_32, hf⟩ := bd1 hf
          refine r_dalVi (pc := 32) (ws' := (wX5_areSo E h h_book h_sort h_one h_other a1 a1_rows v_count v_book v_sort v_one v_a1_rows v_other)) (As := [.int x3_4, .ref a1, .int p2]) (rest := []) C (ctX5_isSo l E h h_book h_sort h_one h_other a1 a1_rows v_count v_sort v_one v_a1_rows v_other N x3_4 p2 r_32 hc_32) ml_X5_32 ⟨Nat.le_of_ble_eq_true rfl, Nat.le_of_ble_eq_true rfl⟩ hP hD hS 0 rfl rfl rfl [0, 2, 3, 4, 5, 6] [7, 1, 8, 9, 10, 11, 12] 7 rfl rfl rfl rfl rfl rfl rfl hl.1 rfl (Nat.le_of_ble_eq_true rfl) ⟨Nat.zero_le _, Nat.zero_le _⟩ dX5_areSo_32 ?_
          clear hP hD hS; intro H locs hP hD hS
          refine lv_if_ne (pc := 35) (tgt := 40) hx hb dX5_areSo_35 (by decide) (fun c_35 => ?_) (fun c_35 => ?_)
          · replace hf := it_f c_35 hf
            exact hj40  hf _ _ _ (lv_sub hl [0, 1, 2, 3, 4] rfl) hP hD hS
          · replace hf := it_t c_35 hf
            refine lv_iconst (pc := 38) (v := 0) hx hb dX5_areSo_38 (by decide) ?_
            cases hf
            rw [hQ]
            exact r_zret C hr hP hD hS (Or.inl rfl) rfl dX5_areSo_39
  exact key3 _ 0 hf _ _ _ (lv_sub hl [1, 2, 3, 4, 0] rfl) hP hD hS
def wX0_gather (E : EN) (h h_trial h_inn h_dreams h_plain h_set h_tried h_kin h_fitters a0 a0_book a0_sort a0_one a0_other h_plain_rows : Nat) (v_count : Int32) (v_fitting : Int32) (v_a0_count : Int32) (v_a0_book : Nat → Int32) (v_a0_sort : Nat → Int32) (v_a0_one : Nat → Int32) (v_plain_rows : Nat → Int64) (v_a0_other : Nat → Int32) (v_fitters : Nat → Int32) : va_W := [(h, .inr (0, [.ref h_trial, .ref h_inn, .int v_count, .ref h_dreams, .ref h_plain, .ref h_set, .ref h_tried, .ref h_kin, .int v_fitting, .ref h_fitters])), (a0, .inr (5, [.ref a0_book, .ref a0_sort, .ref a0_one, .ref a0_other, .int v_a0_count])), (a0_book, aI E 20 v_a0_book), (a0_sort, aI E 20 v_a0_sort), (a0_one, aI E 20 v_a0_one), (h_plain, .inr (3, [.ref h_plain_rows])), (h_plain_rows, aJ E 256 v_plain_rows), (a0_other, aI E 20 v_a0_other), (h_fitters, aI E 64 v_fitters)]
def BX0_gather_7 (v_count : Int32) (N : Nat) (p1 : Int32) (v_a0_count : Int32) (v_a0_book : Nat → Int32) (v_a0_sort : Nat → Int32) (v_a0_one : Nat → Int32) (v_plain_rows : Nat → Int64) (v_a0_other : Nat → Int32) (rec7 : (Int32 × Int32 × (Nat → Int32)) → Option (Int32 × Int32 × (Nat → Int32))) : (Int32 × Int32 × (Nat → Int32)) → Option (Int32 × Int32 × (Nat → Int32)) := un3 fun (x7_3 : Int32) (x7_fitting : Int32) (x7_fitters : Nat → Int32) => if v_count ≤ x7_3 then (some (x7_fitting, x7_fitting, x7_fitters)) else ((fX5_areSo N p1 x7_3 v_a0_count v_a0_book v_a0_sort v_a0_one v_plain_rows v_a0_other).bind (un1 fun (r_22 : Int32) => jn (un2 fun (x48_fitting : Int32) (x48_fitters : Nat → Int32) => rec7 (x7_3 + 1, x48_fitting, x48_fitters)) (fun j48 => if r_22 = 0 then (j48 (x7_fitting, x7_fitters)) else (gd x7_fitting 64 (j48 (x7_fitting + 1, upd x7_fitters x7_fitting.toNatClampNeg x7_3))))))
def fX0_gather (N : Nat) (p1 : Int32) (v_count : Int32) (v_a0_count : Int32) (v_a0_book : Nat → Int32) (v_a0_sort : Nat → Int32) (v_a0_one : Nat → Int32) (v_plain_rows : Nat → Int64) (v_a0_other : Nat → Int32) (v_fitters : Nat → Int32) : Option (Int32 × Int32 × (Nat → Int32)) := lp (BX0_gather_7 v_count N p1 v_a0_count v_a0_book v_a0_sort v_a0_one v_plain_rows v_a0_other) N (0, 0, v_fitters)
set_option maxHeartbeats 4000000 in
set_option maxRecDepth 100000 in
theorem ctX0_gather (l : Launch) (E : EN) (h h_trial h_inn h_dreams h_plain h_set h_tried h_kin h_fitters a0 a0_book a0_sort a0_one a0_other h_plain_rows : Nat) (v_count : Int32) (v_fitting : Int32) (v_a0_count : Int32) (v_a0_book : Nat → Int32) (v_a0_sort : Nat → Int32) (v_a0_one : Nat → Int32) (v_plain_rows : Nat → Int64) (v_a0_other : Nat → Int32) (v_fitters : Nat → Int32) (N : Nat) (p1 : Int32) (z : Int32 × Int32 × (Nat → Int32)) (hf : fX0_gather N p1 v_count v_a0_count v_a0_book v_a0_sort v_a0_one v_plain_rows v_a0_other v_fitters = some z) : CTi l E yX0_gather cX0_gather 4 .int 4 92 [.ref h, .ref a0, .int p1] (wX0_gather E h h_trial h_inn h_dreams h_plain h_set h_tried h_kin h_fitters a0 a0_book a0_sort a0_one a0_other h_plain_rows v_count v_fitting v_a0_count v_a0_book v_a0_sort v_a0_one v_plain_rows v_a0_other v_fitters) (z.1) (wX0_gather E h h_trial h_inn h_dreams h_plain h_set h_tried h_kin h_fitters a0 a0_book a0_sort a0_one a0_other h_plain_rows v_count z.2.1 v_a0_count v_a0_book v_a0_sort v_a0_one v_plain_rows v_a0_other z.2.2) := by
  intro sz
  refine ct_body (by decide) (Nat.le_of_ble_eq_true rfl) ?_
  intro p e s m args below meth c A ls hAe C hr hin hP hD hS hl
  have C : CX p s m args meth c cX0_gather RX0 4 E A := C
  have hl : lv_has ls 4 [(0, .ref h), (1, .ref a0), (2, .int p1)] := hl
  have hx := C.1
  have hb := C.2.1
  rw [hAe]
  clear hAe
  obtain ⟨Q, hQ⟩ : ∃ Q, Q = MQ below (Qi E A (z.1) (wX0_gather E h h_trial h_inn h_dreams h_plain h_set h_tried h_kin h_fitters a0 a0_book a0_sort a0_one a0_other h_plain_rows v_count z.2.1 v_a0_count v_a0_book v_a0_sort v_a0_one v_plain_rows v_a0_other z.2.2)) args s 0 0 A := ⟨_, rfl⟩
  rw [← hQ]
  unfold fX0_gather at hf
  refine lv_aload_n (pc := 0) hx hb dX0_gather_0 rfl (lv_at hl 0 rfl) ?_
  refine lv_iconst (pc := 1) (v := 0) hx hb dX0_gather_1 (by decide) ?_
  refine r_put (pc := 2) (ws' := (wX0_gather E h h_trial h_inn h_dreams h_plain h_set h_tried h_kin h_fitters a0 a0_book a0_sort a0_one a0_other h_plain_rows v_count 0 v_a0_count v_a0_book v_a0_sort v_a0_one v_plain_rows v_a0_other v_fitters)) C hP hD hS 0 rfl fl_X0_91 rfl rfl (Nat.le_of_ble_eq_true rfl) rfl dX0_gather_2 ?_
  clear hP hD hS; intro H locs hP hD hS
  refine lv_iconst (pc := 5) (v := 0) hx hb dX0_gather_5 (by decide) ?_
  refine lv_istore_n (pc := 6) (lv' := [(3, .int 0), (0, .ref h), (1, .ref a0), (2, .int p1)]) hx hb dX0_gather_6 rfl hl (by decide) rfl (fun ls hl => ?_)
  have key7 : ∀ (n : Nat) (x7_3 : Int32) (x7_fitting : Int32) (x7_fitters : Nat → Int32) , lp (BX0_gather_7 v_count N p1 v_a0_count v_a0_book v_a0_sort v_a0_one v_plain_rows v_a0_other) n (x7_3, x7_fitting, x7_fitters) = some z → AT p l e (rmOf 4 92) s m args below meth c E A Q 0 0 4 [(0, .ref h), (1, .ref a0), (2, .int p1), (3, .int x7_3)] (wX0_gather E h h_trial h_inn h_dreams h_plain h_set h_tried h_kin h_fitters a0 a0_book a0_sort a0_one a0_other h_plain_rows v_count x7_fitting v_a0_count v_a0_book v_a0_sort v_a0_one v_plain_rows v_a0_other x7_fitters) 7 [] := by
    intro n
    induction n with
    | zero => intro x7_3 x7_fitting x7_fitters hf; exact (lp_0 hf).elim
    | succ n ih7 =>
      intro x7_3 x7_fitting x7_fitters hf H locs ls hl hP hD hS
      replace hf := lp_s hf
      generalize lp (BX0_gather_7 v_count N p1 v_a0_count v_a0_book v_a0_sort v_a0_one v_plain_rows v_a0_other) n = rec7 at ih7 hf
      unfold BX0_gather_7 at hf
      replace hf := un3_s hf
      refine lv_iload_n (pc := 7) hx hb dX0_gather_7 rfl (lv_at hl 3 rfl) ?_
      refine lv_aload_n (pc := 8) hx hb dX0_gather_8 rfl (lv_at hl 0 rfl) ?_
      refine r_get (pc := 9) C hP 0 rfl fl_X0_48 rfl dX0_gather_9 ?_
      refine lv_icmp_ge (pc := 12) (tgt := 54) hx hb dX0_gather_12 (by decide) (fun c_12 => ?_) (fun c_12 => ?_)
      · replace hf := it_t c_12 hf
        refine lv_aload_n (pc := 54) hx hb dX0_gather_54 rfl (lv_at hl 0 rfl) ?_
        refine r_get (pc := 55) C hP 0 rfl fl_X0_91 rfl dX0_gather_55 ?_
        cases hf
        rw [hQ]
        exact r_iret C hr hP hD hS rfl dX0_gather_58
      · replace hf := it_f c_12 hf
        refine lv_aload_n (pc := 15) hx hb dX0_gather_15 rfl (lv_at hl 1 rfl) ?_
        refine lv_iload_n (pc := 16) hx hb dX0_gather_16 rfl (lv_at hl 2 rfl) ?_
        refine lv_aload_n (pc := 17) hx hb dX0_gather_17 rfl (lv_at hl 0 rfl) ?_
        refine r_get (pc := 18) C hP 0 rfl fl_X0_18 rfl dX0_gather_18 ?_
        refine lv_iload_n (pc := 21) hx hb dX0_gather_21 rfl (lv_at hl 3 rfl) ?_
        obtain ⟨r_22, hc_22, hf⟩ := bd1 hf
        refine r_dalVi (pc := 22) (ws' := (wX0_gather E h h_trial h_inn h_dreams h_plain h_set h_tried h_kin h_fitters a0 a0_book a0_sort a0_one a0_other h_plain_rows v_count x7_fitting v_a0_count v_a0_book v_a0_sort v_a0_one v_plain_rows v_a0_other x7_fitters)) (As := [.int p1, .ref h_plain, .int x7_3]) (rest := []) C (ctX5_areSo l E a0 a0_book a0_sort a0_one a0_other h_plain h_plain_rows v_a0_count v_a0_book v_a0_sort v_a0_one v_plain_rows v_a0_other N p1 x7_3 r_22 hc_22) ml_X0_94 ⟨Nat.le_of_ble_eq_true rfl, Nat.le_of_ble_eq_true rfl⟩ hP hD hS 1 rfl rfl rfl [1, 2, 3, 4, 5, 6, 7] [0, 9, 10, 11, 12, 13, 14, 15, 8] 9 rfl rfl rfl rfl rfl rfl rfl hl.1 rfl (Nat.le_of_ble_eq_true rfl) ⟨Nat.zero_le _, Nat.zero_le _⟩ dX0_gather_22 ?_
        clear hP hD hS; intro H locs hP hD hS
        refine jnK hf (fun j48 ej48 hf => ?_)
        have hj48 : ∀ (x48_fitting : Int32) (x48_fitters : Nat → Int32) , j48 (x48_fitting, x48_fitters) = some z → AT p l e (rmOf 4 92) s m args below meth c E A Q 0 0 4 [(0, .ref h), (1, .ref a0), (2, .int p1), (3, .int x7_3)] (wX0_gather E h h_trial h_inn h_dreams h_plain h_set h_tried h_kin h_fitters a0 a0_book a0_sort a0_one a0_other h_plain_rows v_count x48_fitting v_a0_count v_a0_book v_a0_sort v_a0_one v_plain_rows v_a0_other x48_fitters) 48 [] := by
          intro x48_fitting x48_fitters hf H locs ls hl hP hD hS
          rw [ej48] at hf
          replace hf := un2_s hf
          refine lv_iinc (pc := 48) (v := x7_3 + 1) (lv' := [(3, .int (x7_3 + 1)), (0, .ref h), (1, .ref a0), (2, .int p1)]) hx hb dX0_gather_48 hl (k := 3) rfl rfl (by decide) rfl (fun ls hl => ?_)
          refine lv_goto (pc := 51) (tgt := 7) hx hb dX0_gather_51 (by decide) ?_
          exact ih7 (x7_3 + 1) x48_fitting x48_fitters hf _ _ _ (lv_sub hl [1, 2, 3, 0] rfl) hP hD hS
        clear ej48
        refine lv_if_eq (pc := 25) (tgt := 48) hx hb dX0_gather_25 (by decide) (fun c_25 => ?_) (fun c_25 => ?_)
        · replace hf := it_t c_25 hf
          exact hj48 x7_fitting x7_fitters hf _ _ _ (lv_sub hl [0, 1, 2, 3] rfl) hP hD hS
        · replace hf := it_f c_25 hf
          refine lv_aload_n (pc := 28) hx hb dX0_gather_28 rfl (lv_at hl 0 rfl) ?_
          refine r_get (pc := 29) C hP 0 rfl fl_X0_32 rfl dX0_gather_29 ?_
          refine lv_aload_n (pc := 32) hx hb dX0_gather_32 rfl (lv_at hl 0 rfl) ?_
          refine r_get (pc := 33) C hP 0 rfl fl_X0_91 rfl dX0_gather_33 ?_
          refine lv_iload_n (pc := 36) hx hb dX0_gather_36 rfl (lv_at hl 3 rfl) ?_
          obtain ⟨hi_37, hf⟩ := gd_s hf
          refine r_iast (pc := 37) (ws' := (wX0_gather E h h_trial h_inn h_dreams h_plain h_set h_tried h_kin h_fitters a0 a0_book a0_sort a0_one a0_other h_plain_rows v_count x7_fitting v_a0_count v_a0_book v_a0_sort v_a0_one v_plain_rows v_a0_other (upd x7_fitters x7_fitting.toNatClampNeg x7_3))) C hP hD hS 8 rfl hi_37 rfl dX0_gather_37 ?_
          clear hP hD hS; intro H locs hP hD hS
          refine lv_aload_n (pc := 38) hx hb dX0_gather_38 rfl (lv_at hl 0 rfl) ?_
          refine lv_dup (pc := 39) hx hb dX0_gather_39 rfl ?_
          refine r_get (pc := 40) C hP 0 rfl fl_X0_91 rfl dX0_gather_40 ?_
          refine lv_iconst (pc := 43) (v := 1) hx hb dX0_gather_43 (by decide) ?_
          refine lv_iadd (pc := 44) hx hb dX0_gather_44 ?_
          refine r_put (pc := 45) (ws' := (wX0_gather E h h_trial h_inn h_dreams h_plain h_set h_tried h_kin h_fitters a0 a0_book a0_sort a0_one a0_other h_plain_rows v_count (x7_fitting + 1) v_a0_count v_a0_book v_a0_sort v_a0_one v_plain_rows v_a0_other (upd x7_fitters x7_fitting.toNatClampNeg x7_3))) C hP hD hS 0 rfl fl_X0_91 rfl rfl (Nat.le_of_ble_eq_true rfl) rfl dX0_gather_45 ?_
          clear hP hD hS; intro H locs hP hD hS
          exact hj48 (x7_fitting + 1) (upd x7_fitters x7_fitting.toNatClampNeg x7_3) hf _ _ _ (lv_sub hl [0, 1, 2, 3] rfl) hP hD hS
  exact key7 _ 0 0 v_fitters hf _ _ _ (lv_sub hl [1, 2, 3, 0] rfl) hP hD hS
def wX10_fits (E : EN) (h h_reader h_inn h_chosen h_night h_marks h_notes h_casts h_inn_house h_inn_thingIn h_inn_full h_inn_states h_inn_bed h_inn_dreamOf h_inn_listensIn h_casts_trial h_casts_dreams h_casts_plain h_casts_set h_casts_tried h_casts_kin h_casts_fitters h_notes_book h_notes_sort h_notes_one h_notes_other h_casts_plain_rows : Nat) (v_marked : Int32) (v_refusal : Int32) (v_latestFault : Int32) (v_faultPlace : Int32) (v_inn_minutes : Int32) (v_inn_things : Int32) (v_inn_dreams : Int32) (v_inn_sleepers : Int32) (v_inn_listeners : Int32) (v_casts_count : Int32) (v_casts_fitting : Int32) (v_notes_count : Int32) (v_notes_book : Nat → Int32) (v_notes_sort : Nat → Int32) (v_notes_one : Nat → Int32) (v_casts_plain_rows : Nat → Int64) (v_notes_other : Nat → Int32) (v_casts_fitters : Nat → Int32) : va_W := [(h, .inr (9, [.ref h_reader, .ref h_inn, .ref h_chosen, .ref h_night, .ref h_marks, .int v_marked, .ref h_notes, .ref h_casts, .int v_refusal, .int v_latestFault, .int v_faultPlace])), (h_inn, .inr (2, [.ref h_inn_house, .int v_inn_minutes, .int v_inn_things, .ref h_inn_thingIn, .ref h_inn_full, .int v_inn_dreams, .ref h_inn_states, .int v_inn_sleepers, .ref h_inn_bed, .ref h_inn_dreamOf, .int v_inn_listeners, .ref h_inn_listensIn])), (h_casts, .inr (0, [.ref h_casts_trial, .ref h_inn, .int v_casts_count, .ref h_casts_dreams, .ref h_casts_plain, .ref h_casts_set, .ref h_casts_tried, .ref h_casts_kin, .int v_casts_fitting, .ref h_casts_fitters])), (h_notes, .inr (5, [.ref h_notes_book, .ref h_notes_sort, .ref h_notes_one, .ref h_notes_other, .int v_notes_count])), (h_notes_book, aI E 20 v_notes_book), (h_notes_sort, aI E 20 v_notes_sort), (h_notes_one, aI E 20 v_notes_one), (h_casts_plain, .inr (3, [.ref h_casts_plain_rows])), (h_casts_plain_rows, aJ E 256 v_casts_plain_rows), (h_notes_other, aI E 20 v_notes_other), (h_casts_fitters, aI E 64 v_casts_fitters)]
def fX10_fits (N : Nat) (p0 : Int32) (v_inn_minutes : Int32) (v_casts_count : Int32) (v_casts_fitting : Int32) (v_notes_count : Int32) (v_notes_book : Nat → Int32) (v_notes_sort : Nat → Int32) (v_notes_one : Nat → Int32) (v_casts_plain_rows : Nat → Int64) (v_notes_other : Nat → Int32) (v_casts_fitters : Nat → Int32) : Option (Int32 × Int32 × Int32 × (Nat → Int32)) := (fX10_isTold N v_inn_minutes).bind (un1 fun (r_1 : Int32) => if r_1 = 0 then ((fX10_refuse N 1).bind (un2 fun (r_9 : Int32) (v_refusal_9 : Int32) => some (r_9, v_refusal_9, v_casts_fitting, v_casts_fitters))) else ((fX10_areBooks N p0).bind (un1 fun (r_14 : Int32) => if r_14 = 0 then ((fX10_refuse N 2).bind (un2 fun (r_22 : Int32) (v_refusal_22 : Int32) => some (r_22, v_refusal_22, v_casts_fitting, v_casts_fitters))) else ((fX0_gather N p0 v_casts_count v_notes_count v_notes_book v_notes_sort v_notes_one v_casts_plain_rows v_notes_other v_casts_fitters).bind (un3 fun (r_36 : Int32) (v_casts_fitting_36 : Int32) (v_casts_fitters_36 : Nat → Int32) => (fX10_answer N r_36).bind (un2 fun (r_39 : Int32) (v_refusal_39 : Int32) => some (r_39, v_refusal_39, v_casts_fitting_36, v_casts_fitters_36)))))))
set_option maxHeartbeats 4000000 in
set_option maxRecDepth 100000 in
theorem ctX10_fits (l : Launch) (E : EN) (h h_reader h_inn h_chosen h_night h_marks h_notes h_casts h_inn_house h_inn_thingIn h_inn_full h_inn_states h_inn_bed h_inn_dreamOf h_inn_listensIn h_casts_trial h_casts_dreams h_casts_plain h_casts_set h_casts_tried h_casts_kin h_casts_fitters h_notes_book h_notes_sort h_notes_one h_notes_other h_casts_plain_rows : Nat) (v_marked : Int32) (v_refusal : Int32) (v_latestFault : Int32) (v_faultPlace : Int32) (v_inn_minutes : Int32) (v_inn_things : Int32) (v_inn_dreams : Int32) (v_inn_sleepers : Int32) (v_inn_listeners : Int32) (v_casts_count : Int32) (v_casts_fitting : Int32) (v_notes_count : Int32) (v_notes_book : Nat → Int32) (v_notes_sort : Nat → Int32) (v_notes_one : Nat → Int32) (v_casts_plain_rows : Nat → Int64) (v_notes_other : Nat → Int32) (v_casts_fitters : Nat → Int32) (N : Nat) (p0 : Int32) (z : Int32 × Int32 × Int32 × (Nat → Int32)) (hf : fX10_fits N p0 v_inn_minutes v_casts_count v_casts_fitting v_notes_count v_notes_book v_notes_sort v_notes_one v_casts_plain_rows v_notes_other v_casts_fitters = some z) : CTi l E yX10_fits cX10_fits 2 .int 5 115 [.ref h, .int p0] (wX10_fits E h h_reader h_inn h_chosen h_night h_marks h_notes h_casts h_inn_house h_inn_thingIn h_inn_full h_inn_states h_inn_bed h_inn_dreamOf h_inn_listensIn h_casts_trial h_casts_dreams h_casts_plain h_casts_set h_casts_tried h_casts_kin h_casts_fitters h_notes_book h_notes_sort h_notes_one h_notes_other h_casts_plain_rows v_marked v_refusal v_latestFault v_faultPlace v_inn_minutes v_inn_things v_inn_dreams v_inn_sleepers v_inn_listeners v_casts_count v_casts_fitting v_notes_count v_notes_book v_notes_sort v_notes_one v_casts_plain_rows v_notes_other v_casts_fitters) (z.1) (wX10_fits E h h_reader h_inn h_chosen h_night h_marks h_notes h_casts h_inn_house h_inn_thingIn h_inn_full h_inn_states h_inn_bed h_inn_dreamOf h_inn_listensIn h_casts_trial h_casts_dreams h_casts_plain h_casts_set h_casts_tried h_casts_kin h_casts_fitters h_notes_book h_notes_sort h_notes_one h_notes_other h_casts_plain_rows v_marked z.2.1 v_latestFault v_faultPlace v_inn_minutes v_inn_things v_inn_dreams v_inn_sleepers v_inn_listeners v_casts_count z.2.2.1 v_notes_count v_notes_book v_notes_sort v_notes_one v_casts_plain_rows v_notes_other z.2.2.2) := by
  intro sz
  refine ct_body (by decide) (Nat.le_of_ble_eq_true rfl) ?_
  intro p e s m args below meth c A ls hAe C hr hin hP hD hS hl
  have C : CX p s m args meth c cX10_fits RX10 2 E A := C
  have hl : lv_has ls 2 [(0, .ref h), (1, .int p0)] := hl
  have hx := C.1
  have hb := C.2.1
  rw [hAe]
  clear hAe
  obtain ⟨Q, hQ⟩ : ∃ Q, Q = MQ below (Qi E A (z.1) (wX10_fits E h h_reader h_inn h_chosen h_night h_marks h_notes h_casts h_inn_house h_inn_thingIn h_inn_full h_inn_states h_inn_bed h_inn_dreamOf h_inn_listensIn h_casts_trial h_casts_dreams h_casts_plain h_casts_set h_casts_tried h_casts_kin h_casts_fitters h_notes_book h_notes_sort h_notes_one h_notes_other h_casts_plain_rows v_marked z.2.1 v_latestFault v_faultPlace v_inn_minutes v_inn_things v_inn_dreams v_inn_sleepers v_inn_listeners v_casts_count z.2.2.1 v_notes_count v_notes_book v_notes_sort v_notes_one v_casts_plain_rows v_notes_other z.2.2.2)) args s 0 0 A := ⟨_, rfl⟩
  rw [← hQ]
  unfold fX10_fits at hf
  refine lv_aload_n (pc := 0) hx hb dX10_fits_0 rfl (lv_at hl 0 rfl) ?_
  obtain ⟨r_1, hc_1, hf⟩ := bd1 hf
  refine r_dalVi (pc := 1) (ws' := (wX10_fits E h h_reader h_inn h_chosen h_night h_marks h_notes h_casts h_inn_house h_inn_thingIn h_inn_full h_inn_states h_inn_bed h_inn_dreamOf h_inn_listensIn h_casts_trial h_casts_dreams h_casts_plain h_casts_set h_casts_tried h_casts_kin h_casts_fitters h_notes_book h_notes_sort h_notes_one h_notes_other h_casts_plain_rows v_marked v_refusal v_latestFault v_faultPlace v_inn_minutes v_inn_things v_inn_dreams v_inn_sleepers v_inn_listeners v_casts_count v_casts_fitting v_notes_count v_notes_book v_notes_sort v_notes_one v_casts_plain_rows v_notes_other v_casts_fitters)) (As := []) (rest := []) C (ctX10_isTold l E h h_reader h_inn h_chosen h_night h_marks h_notes h_casts h_inn_house h_inn_thingIn h_inn_full h_inn_states h_inn_bed h_inn_dreamOf h_inn_listensIn v_marked v_refusal v_latestFault v_faultPlace v_inn_minutes v_inn_things v_inn_dreams v_inn_sleepers v_inn_listeners N r_1 hc_1) ml_X10_170 ⟨Nat.le_of_ble_eq_true rfl, Nat.le_of_ble_eq_true rfl⟩ hP hD hS 0 rfl rfl rfl [0, 1] [11, 12, 2, 3, 4, 5, 6, 7, 8, 9, 10] 11 rfl rfl rfl rfl rfl rfl rfl hl.1 rfl (Nat.le_of_ble_eq_true rfl) ⟨Nat.zero_le _, Nat.zero_le _⟩ dX10_fits_1 ?_
  clear hP hD hS; intro H locs hP hD hS
  refine lv_if_ne (pc := 4) (tgt := 13) hx hb dX10_fits_4 (by decide) (fun c_4 => ?_) (fun c_4 => ?_)
  · replace hf := it_f c_4 hf
    refine lv_iload_n (pc := 13) hx hb dX10_fits_13 rfl (lv_at hl 1 rfl) ?_
    obtain ⟨r_14, hc_14, hf⟩ := bd1 hf
    refine r_dalSi (pc := 14) (Cn := "") (h := 0) (ws' := (wX10_fits E h h_reader h_inn h_chosen h_night h_marks h_notes h_casts h_inn_house h_inn_thingIn h_inn_full h_inn_states h_inn_bed h_inn_dreamOf h_inn_listensIn h_casts_trial h_casts_dreams h_casts_plain h_casts_set h_casts_tried h_casts_kin h_casts_fitters h_notes_book h_notes_sort h_notes_one h_notes_other h_casts_plain_rows v_marked v_refusal v_latestFault v_faultPlace v_inn_minutes v_inn_things v_inn_dreams v_inn_sleepers v_inn_listeners v_casts_count v_casts_fitting v_notes_count v_notes_book v_notes_sort v_notes_one v_casts_plain_rows v_notes_other v_casts_fitters)) (As := [.int p0]) (rest := []) C (ctX10_areBooks l E N p0 r_14 hc_14) ml_X10_259 ⟨Nat.le_of_ble_eq_true rfl, Nat.le_of_ble_eq_true rfl⟩ hP hD hS [] [0, 1, 2, 3, 4, 5, 6, 7, 8, 9, 10] 11 rfl rfl rfl rfl rfl rfl rfl hl.1 rfl (Nat.le_of_ble_eq_true rfl) ⟨Nat.zero_le _, Nat.zero_le _⟩ dX10_fits_14 ?_
    clear hP hD hS; intro H locs hP hD hS
    refine lv_if_ne (pc := 17) (tgt := 26) hx hb dX10_fits_17 (by decide) (fun c_17 => ?_) (fun c_17 => ?_)
    · replace hf := it_f c_17 hf
      refine lv_aload_n (pc := 26) hx hb dX10_fits_26 rfl (lv_at hl 0 rfl) ?_
      refine lv_aload_n (pc := 27) hx hb dX10_fits_27 rfl (lv_at hl 0 rfl) ?_
      refine r_get (pc := 28) C hP 0 rfl fl_X10_50 rfl dX10_fits_28 ?_
      refine lv_aload_n (pc := 31) hx hb dX10_fits_31 rfl (lv_at hl 0 rfl) ?_
      refine r_get (pc := 32) C hP 0 rfl fl_X10_43 rfl dX10_fits_32 ?_
      refine lv_iload_n (pc := 35) hx hb dX10_fits_35 rfl (lv_at hl 1 rfl) ?_
      obtain ⟨r_36, v_casts_fitting_36, v_casts_fitters_36, hc_36, hf⟩ := bd3 hf
      refine r_dalVi (pc := 36) (ws' := (wX10_fits E h h_reader h_inn h_chosen h_night h_marks h_notes h_casts h_inn_house h_inn_thingIn h_inn_full h_inn_states h_inn_bed h_inn_dreamOf h_inn_listensIn h_casts_trial h_casts_dreams h_casts_plain h_casts_set h_casts_tried h_casts_kin h_casts_fitters h_notes_book h_notes_sort h_notes_one h_notes_other h_casts_plain_rows v_marked v_refusal v_latestFault v_faultPlace v_inn_minutes v_inn_things v_inn_dreams v_inn_sleepers v_inn_listeners v_casts_count v_casts_fitting_36 v_notes_count v_notes_book v_notes_sort v_notes_one v_casts_plain_rows v_notes_other v_casts_fitters_36)) (As := [.ref h_notes, .int p0]) (rest := [.ref h]) C (ctX0_gather l E h_casts h_casts_trial h_inn h_casts_dreams h_casts_plain h_casts_set h_casts_tried h_casts_kin h_casts_fitters h_notes h_notes_book h_notes_sort h_notes_one h_notes_other h_casts_plain_rows v_casts_count v_casts_fitting v_notes_count v_notes_book v_notes_sort v_notes_one v_casts_plain_rows v_notes_other v_casts_fitters N p0 (r_36, v_casts_fitting_36, v_casts_fitters_36) hc_36) ml_X10_262 ⟨Nat.le_of_ble_eq_true rfl, Nat.le_of_ble_eq_true rfl⟩ hP hD hS 2 rfl rfl rfl [2, 3, 4, 5, 6, 7, 8, 9, 10] [0, 1, 11, 12, 13, 14, 15, 16, 17, 18, 19] 11 rfl rfl rfl rfl rfl rfl rfl hl.1 rfl (Nat.le_of_ble_eq_true rfl) ⟨Nat.zero_le _, Nat.zero_le _⟩ dX10_fits_36 ?_
      clear hP hD hS; intro H locs hP hD hS
      obtain ⟨r_39, v_refusal_39, hc_39, hf⟩ := bd2 hf
      refine r_dalVi (pc := 39) (ws' := (wX10_fits E h h_reader h_inn h_chosen h_night h_marks h_notes h_casts h_inn_house h_inn_thingIn h_inn_full h_inn_states h_inn_bed h_inn_dreamOf h_inn_listensIn h_casts_trial h_casts_dreams h_casts_plain h_casts_set h_casts_tried h_casts_kin h_casts_fitters h_notes_book h_notes_sort h_notes_one h_notes_other h_casts_plain_rows v_marked v_refusal_39 v_latestFault v_faultPlace v_inn_minutes v_inn_things v_inn_dreams v_inn_sleepers v_inn_listeners v_casts_count v_casts_fitting_36 v_notes_count v_notes_book v_notes_sort v_notes_one v_casts_plain_rows v_notes_other v_casts_fitters_36)) (As := [.int r_36]) (rest := []) C (ctX10_answer l E h h_reader h_inn h_chosen h_night h_marks h_notes h_casts v_marked v_refusal v_latestFault v_faultPlace N r_36 (r_39, v_refusal_39) hc_39) ml_X10_95 ⟨Nat.le_of_ble_eq_true rfl, Nat.le_of_ble_eq_true rfl⟩ hP hD hS 0 rfl rfl rfl [0] [11, 1, 2, 3, 4, 5, 6, 7, 8, 9, 10] 11 rfl rfl rfl rfl rfl rfl rfl hl.1 rfl (Nat.le_of_ble_eq_true rfl) ⟨Nat.zero_le _, Nat.zero_le _⟩ dX10_fits_39 ?_
      clear hP hD hS; intro H locs hP hD hS
      cases hf
      rw [hQ]
      exact r_iret C hr hP hD hS rfl dX10_fits_42
    · replace hf := it_t c_17 hf
      refine lv_aload_n (pc := 20) hx hb dX10_fits_20 rfl (lv_at hl 0 rfl) ?_
      refine lv_iconst (pc := 21) (v := 2) hx hb dX10_fits_21 (by decide) ?_
      obtain ⟨r_22, v_refusal_22, hc_22, hf⟩ := bd2 hf
      refine r_dalVi (pc := 22) (ws' := (wX10_fits E h h_reader h_inn h_chosen h_night h_marks h_notes h_casts h_inn_house h_inn_thingIn h_inn_full h_inn_states h_inn_bed h_inn_dreamOf h_inn_listensIn h_casts_trial h_casts_dreams h_casts_plain h_casts_set h_casts_tried h_casts_kin h_casts_fitters h_notes_book h_notes_sort h_notes_one h_notes_other h_casts_plain_rows v_marked v_refusal_22 v_latestFault v_faultPlace v_inn_minutes v_inn_things v_inn_dreams v_inn_sleepers v_inn_listeners v_casts_count v_casts_fitting v_notes_count v_notes_book v_notes_sort v_notes_one v_casts_plain_rows v_notes_other v_casts_fitters)) (As := [.int 2]) (rest := []) C (ctX10_refuse l E h h_reader h_inn h_chosen h_night h_marks h_notes h_casts v_marked v_refusal v_latestFault v_faultPlace N 2 (r_22, v_refusal_22) hc_22) ml_X10_68 ⟨Nat.le_of_ble_eq_true rfl, Nat.le_of_ble_eq_true rfl⟩ hP hD hS 0 rfl rfl rfl [0] [11, 1, 2, 3, 4, 5, 6, 7, 8, 9, 10] 11 rfl rfl rfl rfl rfl rfl rfl hl.1 rfl (Nat.le_of_ble_eq_true rfl) ⟨Nat.zero_le _, Nat.zero_le _⟩ dX10_fits_22 ?_
      clear hP hD hS; intro H locs hP hD hS
      cases hf
      rw [hQ]
      exact r_iret C hr hP hD hS rfl dX10_fits_25
  · replace hf := it_t c_4 hf
    refine lv_aload_n (pc := 7) hx hb dX10_fits_7 rfl (lv_at hl 0 rfl) ?_
    refine lv_iconst (pc := 8) (v := 1) hx hb dX10_fits_8 (by decide) ?_
    obtain ⟨r_9, v_refusal_9, hc_9, hf⟩ := bd2 hf
    refine r_dalVi (pc := 9) (ws' := (wX10_fits E h h_reader h_inn h_chosen h_night h_marks h_notes h_casts h_inn_house h_inn_thingIn h_inn_full h_inn_states h_inn_bed h_inn_dreamOf h_inn_listensIn h_casts_trial h_casts_dreams h_casts_plain h_casts_set h_casts_tried h_casts_kin h_casts_fitters h_notes_book h_notes_sort h_notes_one h_notes_other h_casts_plain_rows v_marked v_refusal_9 v_latestFault v_faultPlace v_inn_minutes v_inn_things v_inn_dreams v_inn_sleepers v_inn_listeners v_casts_count v_casts_fitting v_notes_count v_notes_book v_notes_sort v_notes_one v_casts_plain_rows v_notes_other v_casts_fitters)) (As := [.int 1]) (rest := []) C (ctX10_refuse l E h h_reader h_inn h_chosen h_night h_marks h_notes h_casts v_marked v_refusal v_latestFault v_faultPlace N 1 (r_9, v_refusal_9) hc_9) ml_X10_68 ⟨Nat.le_of_ble_eq_true rfl, Nat.le_of_ble_eq_true rfl⟩ hP hD hS 0 rfl rfl rfl [0] [11, 1, 2, 3, 4, 5, 6, 7, 8, 9, 10] 11 rfl rfl rfl rfl rfl rfl rfl hl.1 rfl (Nat.le_of_ble_eq_true rfl) ⟨Nat.zero_le _, Nat.zero_le _⟩ dX10_fits_9 ?_
    clear hP hD hS; intro H locs hP hD hS
    cases hf
    rw [hQ]
    exact r_iret C hr hP hD hS rfl dX10_fits_12
def wX0_dreamIn (E : EN) (h h_trial h_inn h_dreams h_plain h_set h_tried h_kin h_fitters : Nat) (v_count : Int32) (v_fitting : Int32) (v_fitters : Nat → Int32) (v_dreams : Nat → Int32) : va_W := [(h, .inr (0, [.ref h_trial, .ref h_inn, .int v_count, .ref h_dreams, .ref h_plain, .ref h_set, .ref h_tried, .ref h_kin, .int v_fitting, .ref h_fitters])), (h_fitters, aI E 64 v_fitters), (h_dreams, aI E 192 v_dreams)]
def fX0_dreamIn (N : Nat) (p0 : Int32) (p1 : Int32) (v_fitters : Nat → Int32) (v_dreams : Nat → Int32) : Option Int32 := gd p0 64 (gd (((v_fitters p0.toNatClampNeg) * 3) + p1) 192 (some (v_dreams (((v_fitters p0.toNatClampNeg) * 3) + p1).toNatClampNeg)))
set_option maxHeartbeats 4000000 in
set_option maxRecDepth 100000 in
theorem ctX0_dreamIn (l : Launch) (E : EN) (h h_trial h_inn h_dreams h_plain h_set h_tried h_kin h_fitters : Nat) (v_count : Int32) (v_fitting : Int32) (v_fitters : Nat → Int32) (v_dreams : Nat → Int32) (N : Nat) (p0 : Int32) (p1 : Int32) (z : Int32) (hf : fX0_dreamIn N p0 p1 v_fitters v_dreams = some z) : CTi l E yX0_dreamIn cX0_dreamIn 3 .int 0 0 [.ref h, .int p0, .int p1] (wX0_dreamIn E h h_trial h_inn h_dreams h_plain h_set h_tried h_kin h_fitters v_count v_fitting v_fitters v_dreams) (z) (wX0_dreamIn E h h_trial h_inn h_dreams h_plain h_set h_tried h_kin h_fitters v_count v_fitting v_fitters v_dreams) := by
  intro sz
  refine ct_body (by decide) (Nat.le_of_ble_eq_true rfl) ?_
  intro p e s m args below meth c A ls hAe C hr hin hP hD hS hl
  have C : CX p s m args meth c cX0_dreamIn RX0 3 E A := C
  have hl : lv_has ls 3 [(0, .ref h), (1, .int p0), (2, .int p1)] := hl
  have hx := C.1
  have hb := C.2.1
  rw [hAe]
  clear hAe
  obtain ⟨Q, hQ⟩ : ∃ Q, Q = MQ below (Qi E A (z) (wX0_dreamIn E h h_trial h_inn h_dreams h_plain h_set h_tried h_kin h_fitters v_count v_fitting v_fitters v_dreams)) args s 0 0 A := ⟨_, rfl⟩
  rw [← hQ]
  unfold fX0_dreamIn at hf
  refine lv_aload_n (pc := 0) hx hb dX0_dreamIn_0 rfl (lv_at hl 0 rfl) ?_
  refine r_get (pc := 1) C hP 0 rfl fl_X0_9 rfl dX0_dreamIn_1 ?_
  refine lv_aload_n (pc := 4) hx hb dX0_dreamIn_4 rfl (lv_at hl 0 rfl) ?_
  refine r_get (pc := 5) C hP 0 rfl fl_X0_32 rfl dX0_dreamIn_5 ?_
  refine lv_iload_n (pc := 8) hx hb dX0_dreamIn_8 rfl (lv_at hl 1 rfl) ?_
  obtain ⟨hi_9, hf⟩ := gd_s hf
  refine r_iald (pc := 9) C hP 1 rfl hi_9 dX0_dreamIn_9 ?_
  refine lv_iconst (pc := 10) (v := 3) hx hb dX0_dreamIn_10 (by decide) ?_
  refine lv_imul (pc := 11) hx hb dX0_dreamIn_11 ?_
  refine lv_iload_n (pc := 12) hx hb dX0_dreamIn_12 rfl (lv_at hl 2 rfl) ?_
  refine lv_iadd (pc := 13) hx hb dX0_dreamIn_13 ?_
  obtain ⟨hi_14, hf⟩ := gd_s hf
  refine r_iald (pc := 14) C hP 2 rfl hi_14 dX0_dreamIn_14 ?_
  cases hf
  rw [hQ]
  exact r_iret C hr hP hD hS rfl dX0_dreamIn_15
def wX10_fit (E : EN) (h h_reader h_inn h_chosen h_night h_marks h_notes h_casts h_inn_house h_inn_thingIn h_inn_full h_inn_states h_inn_bed h_inn_dreamOf h_inn_listensIn h_casts_trial h_casts_dreams h_casts_plain h_casts_set h_casts_tried h_casts_kin h_casts_fitters h_notes_book h_notes_sort h_notes_one h_notes_other h_casts_plain_rows : Nat) (v_marked : Int32) (v_refusal : Int32) (v_latestFault : Int32) (v_faultPlace : Int32) (v_inn_minutes : Int32) (v_inn_things : Int32) (v_inn_dreams : Int32) (v_inn_sleepers : Int32) (v_inn_listeners : Int32) (v_casts_count : Int32) (v_casts_fitting : Int32) (v_notes_count : Int32) (v_notes_book : Nat → Int32) (v_notes_sort : Nat → Int32) (v_notes_one : Nat → Int32) (v_casts_plain_rows : Nat → Int64) (v_notes_other : Nat → Int32) (v_casts_fitters : Nat → Int32) (v_casts_dreams : Nat → Int32) : va_W := [(h, .inr (9, [.ref h_reader, .ref h_inn, .ref h_chosen, .ref h_night, .ref h_marks, .int v_marked, .ref h_notes, .ref h_casts, .int v_refusal, .int v_latestFault, .int v_faultPlace])), (h_inn, .inr (2, [.ref h_inn_house, .int v_inn_minutes, .int v_inn_things, .ref h_inn_thingIn, .ref h_inn_full, .int v_inn_dreams, .ref h_inn_states, .int v_inn_sleepers, .ref h_inn_bed, .ref h_inn_dreamOf, .int v_inn_listeners, .ref h_inn_listensIn])), (h_casts, .inr (0, [.ref h_casts_trial, .ref h_inn, .int v_casts_count, .ref h_casts_dreams, .ref h_casts_plain, .ref h_casts_set, .ref h_casts_tried, .ref h_casts_kin, .int v_casts_fitting, .ref h_casts_fitters])), (h_notes, .inr (5, [.ref h_notes_book, .ref h_notes_sort, .ref h_notes_one, .ref h_notes_other, .int v_notes_count])), (h_notes_book, aI E 20 v_notes_book), (h_notes_sort, aI E 20 v_notes_sort), (h_notes_one, aI E 20 v_notes_one), (h_casts_plain, .inr (3, [.ref h_casts_plain_rows])), (h_casts_plain_rows, aJ E 256 v_casts_plain_rows), (h_notes_other, aI E 20 v_notes_other), (h_casts_fitters, aI E 64 v_casts_fitters), (h_casts_dreams, aI E 192 v_casts_dreams)]
def fX10_fit (N : Nat) (p0 : Int32) (p1 : Int32) (p2 : Int32) (v_inn_sleepers : Int32) (v_casts_count : Int32) (v_casts_fitting : Int32) (v_notes_count : Int32) (v_notes_book : Nat → Int32) (v_notes_sort : Nat → Int32) (v_notes_one : Nat → Int32) (v_casts_plain_rows : Nat → Int64) (v_notes_other : Nat → Int32) (v_casts_fitters : Nat → Int32) (v_casts_dreams : Nat → Int32) : Option (Int32 × Int32 × Int32 × (Nat → Int32)) := (fX10_isSleeper N p2 v_inn_sleepers).bind (un1 fun (r_2 : Int32) => if r_2 = 0 then ((fX10_refuse N 1).bind (un2 fun (r_10 : Int32) (v_refusal_10 : Int32) => some (r_10, v_refusal_10, v_casts_fitting, v_casts_fitters))) else ((fX10_areBooks N p0).bind (un1 fun (r_15 : Int32) => if r_15 = 0 then ((fX10_refuse N 2).bind (un2 fun (r_23 : Int32) (v_refusal_23 : Int32) => some (r_23, v_refusal_23, v_casts_fitting, v_casts_fitters))) else ((fX0_gather N p0 v_casts_count v_notes_count v_notes_book v_notes_sort v_notes_one v_casts_plain_rows v_notes_other v_casts_fitters).bind (un3 fun (r_37 : Int32) (v_casts_fitting_37 : Int32) (v_casts_fitters_37 : Nat → Int32) => (fX10_isBelow N p1 r_37).bind (un1 fun (r_40 : Int32) => if r_40 = 0 then ((fX10_refuse N 1).bind (un2 fun (r_48 : Int32) (v_refusal_48 : Int32) => some (r_48, v_refusal_48, v_casts_fitting_37, v_casts_fitters_37))) else ((fX0_dreamIn N p1 p2 v_casts_fitters_37 v_casts_dreams).bind (un1 fun (r_59 : Int32) => (fX10_answer N r_59).bind (un2 fun (r_62 : Int32) (v_refusal_62 : Int32) => some (r_62, v_refusal_62, v_casts_fitting_37, v_casts_fitters_37))))))))))
set_option maxHeartbeats 4000000 in
set_option maxRecDepth 100000 in
theorem ctX10_fit (l : Launch) (E : EN) (h h_reader h_inn h_chosen h_night h_marks h_notes h_casts h_inn_house h_inn_thingIn h_inn_full h_inn_states h_inn_bed h_inn_dreamOf h_inn_listensIn h_casts_trial h_casts_dreams h_casts_plain h_casts_set h_casts_tried h_casts_kin h_casts_fitters h_notes_book h_notes_sort h_notes_one h_notes_other h_casts_plain_rows : Nat) (v_marked : Int32) (v_refusal : Int32) (v_latestFault : Int32) (v_faultPlace : Int32) (v_inn_minutes : Int32) (v_inn_things : Int32) (v_inn_dreams : Int32) (v_inn_sleepers : Int32) (v_inn_listeners : Int32) (v_casts_count : Int32) (v_casts_fitting : Int32) (v_notes_count : Int32) (v_notes_book : Nat → Int32) (v_notes_sort : Nat → Int32) (v_notes_one : Nat → Int32) (v_casts_plain_rows : Nat → Int64) (v_notes_other : Nat → Int32) (v_casts_fitters : Nat → Int32) (v_casts_dreams : Nat → Int32) (N : Nat) (p0 : Int32) (p1 : Int32) (p2 : Int32) (z : Int32 × Int32 × Int32 × (Nat → Int32)) (hf : fX10_fit N p0 p1 p2 v_inn_sleepers v_casts_count v_casts_fitting v_notes_count v_notes_book v_notes_sort v_notes_one v_casts_plain_rows v_notes_other v_casts_fitters v_casts_dreams = some z) : CTi l E yX10_fit cX10_fit 4 .int 5 115 [.ref h, .int p0, .int p1, .int p2] (wX10_fit E h h_reader h_inn h_chosen h_night h_marks h_notes h_casts h_inn_house h_inn_thingIn h_inn_full h_inn_states h_inn_bed h_inn_dreamOf h_inn_listensIn h_casts_trial h_casts_dreams h_casts_plain h_casts_set h_casts_tried h_casts_kin h_casts_fitters h_notes_book h_notes_sort h_notes_one h_notes_other h_casts_plain_rows v_marked v_refusal v_latestFault v_faultPlace v_inn_minutes v_inn_things v_inn_dreams v_inn_sleepers v_inn_listeners v_casts_count v_casts_fitting v_notes_count v_notes_book v_notes_sort v_notes_one v_casts_plain_rows v_notes_other v_casts_fitters v_casts_dreams) (z.1) (wX10_fit E h h_reader h_inn h_chosen h_night h_marks h_notes h_casts h_inn_house h_inn_thingIn h_inn_full h_inn_states h_inn_bed h_inn_dreamOf h_inn_listensIn h_casts_trial h_casts_dreams h_casts_plain h_casts_set h_casts_tried h_casts_kin h_casts_fitters h_notes_book h_notes_sort h_notes_one h_notes_other h_casts_plain_rows v_marked z.2.1 v_latestFault v_faultPlace v_inn_minutes v_inn_things v_inn_dreams v_inn_sleepers v_inn_listeners v_casts_count z.2.2.1 v_notes_count v_notes_book v_notes_sort v_notes_one v_casts_plain_rows v_notes_other z.2.2.2 v_casts_dreams) := by
  intro sz
  refine ct_body (by decide) (Nat.le_of_ble_eq_true rfl) ?_
  intro p e s m args below meth c A ls hAe C hr hin hP hD hS hl
  have C : CX p s m args meth c cX10_fit RX10 4 E A := C
  have hl : lv_has ls 4 [(0, .ref h), (1, .int p0), (2, .int p1), (3, .int p2)] := hl
  have hx := C.1
  have hb := C.2.1
  rw [hAe]
  clear hAe
  obtain ⟨Q, hQ⟩ : ∃ Q, Q = MQ below (Qi E A (z.1) (wX10_fit E h h_reader h_inn h_chosen h_night h_marks h_notes h_casts h_inn_house h_inn_thingIn h_inn_full h_inn_states h_inn_bed h_inn_dreamOf h_inn_listensIn h_casts_trial h_casts_dreams h_casts_plain h_casts_set h_casts_tried h_casts_kin h_casts_fitters h_notes_book h_notes_sort h_notes_one h_notes_other h_casts_plain_rows v_marked z.2.1 v_latestFault v_faultPlace v_inn_minutes v_inn_things v_inn_dreams v_inn_sleepers v_inn_listeners v_casts_count z.2.2.1 v_notes_count v_notes_book v_notes_sort v_notes_one v_casts_plain_rows v_notes_other z.2.2.2 v_casts_dreams)) args s 0 0 A := ⟨_, rfl⟩
  rw [← hQ]
  unfold fX10_fit at hf
  refine lv_aload_n (pc := 0) hx hb dX10_fit_0 rfl (lv_at hl 0 rfl) ?_
  refine lv_iload_n (pc := 1) hx hb dX10_fit_1 rfl (lv_at hl 3 rfl) ?_
  obtain ⟨r_2, hc_2, hf⟩ := bd1 hf
  refine r_dalVi (pc := 2) (ws' := (wX10_fit E h h_reader h_inn h_chosen h_night h_marks h_notes h_casts h_inn_house h_inn_thingIn h_inn_full h_inn_states h_inn_bed h_inn_dreamOf h_inn_listensIn h_casts_trial h_casts_dreams h_casts_plain h_casts_set h_casts_tried h_casts_kin h_casts_fitters h_notes_book h_notes_sort h_notes_one h_notes_other h_casts_plain_rows v_marked v_refusal v_latestFault v_faultPlace v_inn_minutes v_inn_things v_inn_dreams v_inn_sleepers v_inn_listeners v_casts_count v_casts_fitting v_notes_count v_notes_book v_notes_sort v_notes_one v_casts_plain_rows v_notes_other v_casts_fitters v_casts_dreams)) (As := [.int p2]) (rest := []) C (ctX10_isSleeper l E h h_reader h_inn h_chosen h_night h_marks h_notes h_casts h_inn_house h_inn_thingIn h_inn_full h_inn_states h_inn_bed h_inn_dreamOf h_inn_listensIn v_marked v_refusal v_latestFault v_faultPlace v_inn_minutes v_inn_things v_inn_dreams v_inn_sleepers v_inn_listeners N p2 r_2 hc_2) ml_X10_167 ⟨Nat.le_of_ble_eq_true rfl, Nat.le_of_ble_eq_true rfl⟩ hP hD hS 0 rfl rfl rfl [0, 1] [12, 13, 2, 3, 4, 5, 6, 7, 8, 9, 10, 11] 12 rfl rfl rfl rfl rfl rfl rfl hl.1 rfl (Nat.le_of_ble_eq_true rfl) ⟨Nat.zero_le _, Nat.zero_le _⟩ dX10_fit_2 ?_
  clear hP hD hS; intro H locs hP hD hS
  refine lv_if_ne (pc := 5) (tgt := 14) hx hb dX10_fit_5 (by decide) (fun c_5 => ?_) (fun c_5 => ?_)
  · replace hf := it_f c_5 hf
    refine lv_iload_n (pc := 14) hx hb dX10_fit_14 rfl (lv_at hl 1 rfl) ?_
    obtain ⟨r_15, hc_15, hf⟩ := bd1 hf
    refine r_dalSi (pc := 15) (Cn := "") (h := 0) (ws' := (wX10_fit E h h_reader h_inn h_chosen h_night h_marks h_notes h_casts h_inn_house h_inn_thingIn h_inn_full h_inn_states h_inn_bed h_inn_dreamOf h_inn_listensIn h_casts_trial h_casts_dreams h_casts_plain h_casts_set h_casts_tried h_casts_kin h_casts_fitters h_notes_book h_notes_sort h_notes_one h_notes_other h_casts_plain_rows v_marked v_refusal v_latestFault v_faultPlace v_inn_minutes v_inn_things v_inn_dreams v_inn_sleepers v_inn_listeners v_casts_count v_casts_fitting v_notes_count v_notes_book v_notes_sort v_notes_one v_casts_plain_rows v_notes_other v_casts_fitters v_casts_dreams)) (As := [.int p0]) (rest := []) C (ctX10_areBooks l E N p0 r_15 hc_15) ml_X10_259 ⟨Nat.le_of_ble_eq_true rfl, Nat.le_of_ble_eq_true rfl⟩ hP hD hS [] [0, 1, 2, 3, 4, 5, 6, 7, 8, 9, 10, 11] 12 rfl rfl rfl rfl rfl rfl rfl hl.1 rfl (Nat.le_of_ble_eq_true rfl) ⟨Nat.zero_le _, Nat.zero_le _⟩ dX10_fit_15 ?_
    clear hP hD hS; intro H locs hP hD hS
    refine lv_if_ne (pc := 18) (tgt := 27) hx hb dX10_fit_18 (by decide) (fun c_18 => ?_) (fun c_18 => ?_)
    · replace hf := it_f c_18 hf
      refine lv_iload_n (pc := 27) hx hb dX10_fit_27 rfl (lv_at hl 2 rfl) ?_
      refine lv_aload_n (pc := 28) hx hb dX10_fit_28 rfl (lv_at hl 0 rfl) ?_
      refine r_get (pc := 29) C hP 0 rfl fl_X10_50 rfl dX10_fit_29 ?_
      refine lv_aload_n (pc := 32) hx hb dX10_fit_32 rfl (lv_at hl 0 rfl) ?_
      refine r_get (pc := 33) C hP 0 rfl fl_X10_43 rfl dX10_fit_33 ?_
      refine lv_iload_n (pc := 36) hx hb dX10_fit_36 rfl (lv_at hl 1 rfl) ?_
      obtain ⟨r_37, v_casts_fitting_37, v_casts_fitters_37, hc_37, hf⟩ := bd3 hf
      refine r_dalVi (pc := 37) (ws' := (wX10_fit E h h_reader h_inn h_chosen h_night h_marks h_notes h_casts h_inn_house h_inn_thingIn h_inn_full h_inn_states h_inn_bed h_inn_dreamOf h_inn_listensIn h_casts_trial h_casts_dreams h_casts_plain h_casts_set h_casts_tried h_casts_kin h_casts_fitters h_notes_book h_notes_sort h_notes_one h_notes_other h_casts_plain_rows v_marked v_refusal v_latestFault v_faultPlace v_inn_minutes v_inn_things v_inn_dreams v_inn_sleepers v_inn_listeners v_casts_count v_casts_fitting_37 v_notes_count v_notes_book v_notes_sort v_notes_one v_casts_plain_rows v_notes_other v_casts_fitters_37 v_casts_dreams)) (As := [.ref h_notes, .int p0]) (rest := [.int p1]) C (ctX0_gather l E h_casts h_casts_trial h_inn h_casts_dreams h_casts_plain h_casts_set h_casts_tried h_casts_kin h_casts_fitters h_notes h_notes_book h_notes_sort h_notes_one h_notes_other h_casts_plain_rows v_casts_count v_casts_fitting v_notes_count v_notes_book v_notes_sort v_notes_one v_casts_plain_rows v_notes_other v_casts_fitters N p0 (r_37, v_casts_fitting_37, v_casts_fitters_37) hc_37) ml_X10_262 ⟨Nat.le_of_ble_eq_true rfl, Nat.le_of_ble_eq_true rfl⟩ hP hD hS 2 rfl rfl rfl [2, 3, 4, 5, 6, 7, 8, 9, 10] [0, 1, 12, 13, 14, 15, 16, 17, 18, 19, 20, 11] 12 rfl rfl rfl rfl rfl rfl rfl hl.1 rfl (Nat.le_of_ble_eq_true rfl) ⟨Nat.zero_le _, Nat.zero_le _⟩ dX10_fit_37 ?_
      clear hP hD hS; intro H locs hP hD hS
      obtain ⟨r_40, hc_40, hf⟩ := bd1 hf
      refine r_dalSi (pc := 40) (Cn := "") (h := 0) (ws' := (wX10_fit E h h_reader h_inn h_chosen h_night h_marks h_notes h_casts h_inn_house h_inn_thingIn h_inn_full h_inn_states h_inn_bed h_inn_dreamOf h_inn_listensIn h_casts_trial h_casts_dreams h_casts_plain h_casts_set h_casts_tried h_casts_kin h_casts_fitters h_notes_book h_notes_sort h_notes_one h_notes_other h_casts_plain_rows v_marked v_refusal v_latestFault v_faultPlace v_inn_minutes v_inn_things v_inn_dreams v_inn_sleepers v_inn_listeners v_casts_count v_casts_fitting_37 v_notes_count v_notes_book v_notes_sort v_notes_one v_casts_plain_rows v_notes_other v_casts_fitters_37 v_casts_dreams)) (As := [.int p1, .int r_37]) (rest := []) C (ctX10_isBelow l E N p1 r_37 r_40 hc_40) ml_X10_121 ⟨Nat.le_of_ble_eq_true rfl, Nat.le_of_ble_eq_true rfl⟩ hP hD hS [] [0, 1, 2, 3, 4, 5, 6, 7, 8, 9, 10, 11] 12 rfl rfl rfl rfl rfl rfl rfl hl.1 rfl (Nat.le_of_ble_eq_true rfl) ⟨Nat.zero_le _, Nat.zero_le _⟩ dX10_fit_40 ?_
      clear hP hD hS; intro H locs hP hD hS
      refine lv_if_ne (pc := 43) (tgt := 52) hx hb dX10_fit_43 (by decide) (fun c_43 => ?_) (fun c_43 => ?_)
      · replace hf := it_f c_43 hf
        refine lv_aload_n (pc := 52) hx hb dX10_fit_52 rfl (lv_at hl 0 rfl) ?_
        refine lv_aload_n (pc := 53) hx hb dX10_fit_53 rfl (lv_at hl 0 rfl) ?_
        refine r_get (pc := 54) C hP 0 rfl fl_X10_50 rfl dX10_fit_54 ?_
        refine lv_iload_n (pc := 57) hx hb dX10_fit_57 rfl (lv_at hl 2 rfl) ?_
        refine lv_iload_n (pc := 58) hx hb dX10_fit_58 rfl (lv_at hl 3 rfl) ?_
        obtain ⟨r_59, hc_59, hf⟩ := bd1 hf
        refine r_dalVi (pc := 59) (ws' := (wX10_fit E h h_reader h_inn h_chosen h_night h_marks h_notes h_casts h_inn_house h_inn_thingIn h_inn_full h_inn_states h_inn_bed h_inn_dreamOf h_inn_listensIn h_casts_trial h_casts_dreams h_casts_plain h_casts_set h_casts_tried h_casts_kin h_casts_fitters h_notes_book h_notes_sort h_notes_one h_notes_other h_casts_plain_rows v_marked v_refusal v_latestFault v_faultPlace v_inn_minutes v_inn_things v_inn_dreams v_inn_sleepers v_inn_listeners v_casts_count v_casts_fitting_37 v_notes_count v_notes_book v_notes_sort v_notes_one v_casts_plain_rows v_notes_other v_casts_fitters_37 v_casts_dreams)) (As := [.int p1, .int p2]) (rest := [.ref h]) C (ctX0_dreamIn l E h_casts h_casts_trial h_inn h_casts_dreams h_casts_plain h_casts_set h_casts_tried h_casts_kin h_casts_fitters v_casts_count v_casts_fitting_37 v_casts_fitters_37 v_casts_dreams N p1 p2 r_59 hc_59) ml_X10_266 ⟨Nat.le_of_ble_eq_true rfl, Nat.le_of_ble_eq_true rfl⟩ hP hD hS 2 rfl rfl rfl [2, 10, 11] [0, 1, 12, 3, 4, 5, 6, 7, 8, 9, 13, 14] 12 rfl rfl rfl rfl rfl rfl rfl hl.1 rfl (Nat.le_of_ble_eq_true rfl) ⟨Nat.zero_le _, Nat.zero_le _⟩ dX10_fit_59 ?_
        clear hP hD hS; intro H locs hP hD hS
        obtain ⟨r_62, v_refusal_62, hc_62, hf⟩ := bd2 hf
        refine r_dalVi (pc := 62) (ws' := (wX10_fit E h h_reader h_inn h_chosen h_night h_marks h_notes h_casts h_inn_house h_inn_thingIn h_inn_full h_inn_states h_inn_bed h_inn_dreamOf h_inn_listensIn h_casts_trial h_casts_dreams h_casts_plain h_casts_set h_casts_tried h_casts_kin h_casts_fitters h_notes_book h_notes_sort h_notes_one h_notes_other h_casts_plain_rows v_marked v_refusal_62 v_latestFault v_faultPlace v_inn_minutes v_inn_things v_inn_dreams v_inn_sleepers v_inn_listeners v_casts_count v_casts_fitting_37 v_notes_count v_notes_book v_notes_sort v_notes_one v_casts_plain_rows v_notes_other v_casts_fitters_37 v_casts_dreams)) (As := [.int r_59]) (rest := []) C (ctX10_answer l E h h_reader h_inn h_chosen h_night h_marks h_notes h_casts v_marked v_refusal v_latestFault v_faultPlace N r_59 (r_62, v_refusal_62) hc_62) ml_X10_95 ⟨Nat.le_of_ble_eq_true rfl, Nat.le_of_ble_eq_true rfl⟩ hP hD hS 0 rfl rfl rfl [0] [12, 1, 2, 3, 4, 5, 6, 7, 8, 9, 10, 11] 12 rfl rfl rfl rfl rfl rfl rfl hl.1 rfl (Nat.le_of_ble_eq_true rfl) ⟨Nat.zero_le _, Nat.zero_le _⟩ dX10_fit_62 ?_
        clear hP hD hS; intro H locs hP hD hS
        cases hf
        rw [hQ]
        exact r_iret C hr hP hD hS rfl dX10_fit_65
      · replace hf := it_t c_43 hf
        refine lv_aload_n (pc := 46) hx hb dX10_fit_46 rfl (lv_at hl 0 rfl) ?_
        refine lv_iconst (pc := 47) (v := 1) hx hb dX10_fit_47 (by decide) ?_
        obtain ⟨r_48, v_refusal_48, hc_48, hf⟩ := bd2 hf
        refine r_dalVi (pc := 48) (ws' := (wX10_fit E h h_reader h_inn h_chosen h_night h_marks h_notes h_casts h_inn_house h_inn_thingIn h_inn_full h_inn_states h_inn_bed h_inn_dreamOf h_inn_listensIn h_casts_trial h_casts_dreams h_casts_plain h_casts_set h_casts_tried h_casts_kin h_casts_fitters h_notes_book h_notes_sort h_notes_one h_notes_other h_casts_plain_rows v_marked v_refusal_48 v_latestFault v_faultPlace v_inn_minutes v_inn_things v_inn_dreams v_inn_sleepers v_inn_listeners v_casts_count v_casts_fitting_37 v_notes_count v_notes_book v_notes_sort v_notes_one v_casts_plain_rows v_notes_other v_casts_fitters_37 v_casts_dreams)) (As := [.int 1]) (rest := []) C (ctX10_refuse l E h h_reader h_inn h_chosen h_night h_marks h_notes h_casts v_marked v_refusal v_latestFault v_faultPlace N 1 (r_48, v_refusal_48) hc_48) ml_X10_68 ⟨Nat.le_of_ble_eq_true rfl, Nat.le_of_ble_eq_true rfl⟩ hP hD hS 0 rfl rfl rfl [0] [12, 1, 2, 3, 4, 5, 6, 7, 8, 9, 10, 11] 12 rfl rfl rfl rfl rfl rfl rfl hl.1 rfl (Nat.le_of_ble_eq_true rfl) ⟨Nat.zero_le _, Nat.zero_le _⟩ dX10_fit_48 ?_
        clear hP hD hS; intro H locs hP hD hS
        cases hf
        rw [hQ]
        exact r_iret C hr hP hD hS rfl dX10_fit_51
    · replace hf := it_t c_18 hf
      refine lv_aload_n (pc := 21) hx hb dX10_fit_21 rfl (lv_at hl 0 rfl) ?_
      refine lv_iconst (pc := 22) (v := 2) hx hb dX10_fit_22 (by decide) ?_
      obtain ⟨r_23, v_refusal_23, hc_23, hf⟩ := bd2 hf
      refine r_dalVi (pc := 23) (ws' := (wX10_fit E h h_reader h_inn h_chosen h_night h_marks h_notes h_casts h_inn_house h_inn_thingIn h_inn_full h_inn_states h_inn_bed h_inn_dreamOf h_inn_listensIn h_casts_trial h_casts_dreams h_casts_plain h_casts_set h_casts_tried h_casts_kin h_casts_fitters h_notes_book h_notes_sort h_notes_one h_notes_other h_casts_plain_rows v_marked v_refusal_23 v_latestFault v_faultPlace v_inn_minutes v_inn_things v_inn_dreams v_inn_sleepers v_inn_listeners v_casts_count v_casts_fitting v_notes_count v_notes_book v_notes_sort v_notes_one v_casts_plain_rows v_notes_other v_casts_fitters v_casts_dreams)) (As := [.int 2]) (rest := []) C (ctX10_refuse l E h h_reader h_inn h_chosen h_night h_marks h_notes h_casts v_marked v_refusal v_latestFault v_faultPlace N 2 (r_23, v_refusal_23) hc_23) ml_X10_68 ⟨Nat.le_of_ble_eq_true rfl, Nat.le_of_ble_eq_true rfl⟩ hP hD hS 0 rfl rfl rfl [0] [12, 1, 2, 3, 4, 5, 6, 7, 8, 9, 10, 11] 12 rfl rfl rfl rfl rfl rfl rfl hl.1 rfl (Nat.le_of_ble_eq_true rfl) ⟨Nat.zero_le _, Nat.zero_le _⟩ dX10_fit_23 ?_
      clear hP hD hS; intro H locs hP hD hS
      cases hf
      rw [hQ]
      exact r_iret C hr hP hD hS rfl dX10_fit_26
  · replace hf := it_t c_5 hf
    refine lv_aload_n (pc := 8) hx hb dX10_fit_8 rfl (lv_at hl 0 rfl) ?_
    refine lv_iconst (pc := 9) (v := 1) hx hb dX10_fit_9 (by decide) ?_
    obtain ⟨r_10, v_refusal_10, hc_10, hf⟩ := bd2 hf
    refine r_dalVi (pc := 10) (ws' := (wX10_fit E h h_reader h_inn h_chosen h_night h_marks h_notes h_casts h_inn_house h_inn_thingIn h_inn_full h_inn_states h_inn_bed h_inn_dreamOf h_inn_listensIn h_casts_trial h_casts_dreams h_casts_plain h_casts_set h_casts_tried h_casts_kin h_casts_fitters h_notes_book h_notes_sort h_notes_one h_notes_other h_casts_plain_rows v_marked v_refusal_10 v_latestFault v_faultPlace v_inn_minutes v_inn_things v_inn_dreams v_inn_sleepers v_inn_listeners v_casts_count v_casts_fitting v_notes_count v_notes_book v_notes_sort v_notes_one v_casts_plain_rows v_notes_other v_casts_fitters v_casts_dreams)) (As := [.int 1]) (rest := []) C (ctX10_refuse l E h h_reader h_inn h_chosen h_night h_marks h_notes h_casts v_marked v_refusal v_latestFault v_faultPlace N 1 (r_10, v_refusal_10) hc_10) ml_X10_68 ⟨Nat.le_of_ble_eq_true rfl, Nat.le_of_ble_eq_true rfl⟩ hP hD hS 0 rfl rfl rfl [0] [12, 1, 2, 3, 4, 5, 6, 7, 8, 9, 10, 11] 12 rfl rfl rfl rfl rfl rfl rfl hl.1 rfl (Nat.le_of_ble_eq_true rfl) ⟨Nat.zero_le _, Nat.zero_le _⟩ dX10_fit_10 ?_
    clear hP hD hS; intro H locs hP hD hS
    cases hf
    rw [hQ]
    exact r_iret C hr hP hD hS rfl dX10_fit_13
def wX0_commonDream (E : EN) (h h_trial h_inn h_dreams h_plain h_set h_tried h_kin h_fitters : Nat) (v_count : Int32) (v_fitting : Int32) (v_fitters : Nat → Int32) (v_dreams : Nat → Int32) : va_W := [(h, .inr (0, [.ref h_trial, .ref h_inn, .int v_count, .ref h_dreams, .ref h_plain, .ref h_set, .ref h_tried, .ref h_kin, .int v_fitting, .ref h_fitters])), (h_fitters, aI E 64 v_fitters), (h_dreams, aI E 192 v_dreams)]
def BX0_commonDream_2 (v_fitting : Int32) (N : Nat) (p0 : Int32) (v_fitters : Nat → Int32) (v_dreams : Nat → Int32) (rec2 : (Int32) → Option Int32) : (Int32) → Option Int32 := un1 fun (x2_2 : Int32) => if v_fitting ≤ x2_2 then ((fX0_dreamIn N 0 p0 v_fitters v_dreams).bind (un1 fun (r_37 : Int32) => some r_37)) else ((fX0_dreamIn N x2_2 p0 v_fitters v_dreams).bind (un1 fun (r_13 : Int32) => (fX0_dreamIn N 0 p0 v_fitters v_dreams).bind (un1 fun (r_19 : Int32) => if r_13 = r_19 then (rec2 (x2_2 + 1)) else (some (-2)))))
def fX0_commonDream (N : Nat) (p0 : Int32) (v_fitting : Int32) (v_fitters : Nat → Int32) (v_dreams : Nat → Int32) : Option Int32 := lp (BX0_commonDream_2 v_fitting N p0 v_fitters v_dreams) N 1
set_option maxHeartbeats 4000000 in
set_option maxRecDepth 100000 in
theorem ctX0_commonDream (l : Launch) (E : EN) (h h_trial h_inn h_dreams h_plain h_set h_tried h_kin h_fitters : Nat) (v_count : Int32) (v_fitting : Int32) (v_fitters : Nat → Int32) (v_dreams : Nat → Int32) (N : Nat) (p0 : Int32) (z : Int32) (hf : fX0_commonDream N p0 v_fitting v_fitters v_dreams = some z) : CTi l E yX0_commonDream cX0_commonDream 3 .int 1 22 [.ref h, .int p0] (wX0_commonDream E h h_trial h_inn h_dreams h_plain h_set h_tried h_kin h_fitters v_count v_fitting v_fitters v_dreams) (z) (wX0_commonDream E h h_trial h_inn h_dreams h_plain h_set h_tried h_kin h_fitters v_count v_fitting v_fitters v_dreams) := by
  intro sz
  refine ct_body (by decide) (Nat.le_of_ble_eq_true rfl) ?_
  intro p e s m args below meth c A ls hAe C hr hin hP hD hS hl
  have C : CX p s m args meth c cX0_commonDream RX0 3 E A := C
  have hl : lv_has ls 3 [(0, .ref h), (1, .int p0)] := hl
  have hx := C.1
  have hb := C.2.1
  rw [hAe]
  clear hAe
  obtain ⟨Q, hQ⟩ : ∃ Q, Q = MQ below (Qi E A (z) (wX0_commonDream E h h_trial h_inn h_dreams h_plain h_set h_tried h_kin h_fitters v_count v_fitting v_fitters v_dreams)) args s 0 0 A := ⟨_, rfl⟩
  rw [← hQ]
  unfold fX0_commonDream at hf
  refine lv_iconst (pc := 0) (v := 1) hx hb dX0_commonDream_0 (by decide) ?_
  refine lv_istore_n (pc := 1) (lv' := [(2, .int 1), (0, .ref h), (1, .int p0)]) hx hb dX0_commonDream_1 rfl hl (by decide) rfl (fun ls hl => ?_)
  have key2 : ∀ (n : Nat) (x2_2 : Int32) , lp (BX0_commonDream_2 v_fitting N p0 v_fitters v_dreams) n x2_2 = some z → AT p l e (rmOf 1 22) s m args below meth c E A Q 0 0 3 [(0, .ref h), (1, .int p0), (2, .int x2_2)] (wX0_commonDream E h h_trial h_inn h_dreams h_plain h_set h_tried h_kin h_fitters v_count v_fitting v_fitters v_dreams) 2 [] := by
    intro n
    induction n with
    | zero => intro x2_2 hf; exact (lp_0 hf).elim
    | succ n ih2 =>
      intro x2_2 hf H locs ls hl hP hD hS
      replace hf := lp_s hf
      generalize lp (BX0_commonDream_2 v_fitting N p0 v_fitters v_dreams) n = rec2 at ih2 hf
      unfold BX0_commonDream_2 at hf
      replace hf := un1_s hf
      refine lv_iload_n (pc := 2) hx hb dX0_commonDream_2 rfl (lv_at hl 2 rfl) ?_
      refine lv_aload_n (pc := 3) hx hb dX0_commonDream_3 rfl (lv_at hl 0 rfl) ?_
      refine r_get (pc := 4) C hP 0 rfl fl_X0_91 rfl dX0_commonDream_4 ?_
      refine lv_icmp_ge (pc := 7) (tgt := 34) hx hb dX0_commonDream_7 (by decide) (fun c_7 => ?_) (fun c_7 => ?_)
      · replace hf := it_t c_7 hf
        refine lv_aload_n (pc := 34) hx hb dX0_commonDream_34 rfl (lv_at hl 0 rfl) ?_
        refine lv_iconst (pc := 35) (v := 0) hx hb dX0_commonDream_35 (by decide) ?_
        refine lv_iload_n (pc := 36) hx hb dX0_commonDream_36 rfl (lv_at hl 1 rfl) ?_
        obtain ⟨r_37, hc_37, hf⟩ := bd1 hf
        refine r_dalVi (pc := 37) (ws' := (wX0_commonDream E h h_trial h_inn h_dreams h_plain h_set h_tried h_kin h_fitters v_count v_fitting v_fitters v_dreams)) (As := [.int 0, .int p0]) (rest := []) C (ctX0_dreamIn l E h h_trial h_inn h_dreams h_plain h_set h_tried h_kin h_fitters v_count v_fitting v_fitters v_dreams N 0 p0 r_37 hc_37) ml_X0_100 ⟨Nat.le_of_ble_eq_true rfl, Nat.le_of_ble_eq_true rfl⟩ hP hD hS 0 rfl rfl rfl [0, 1, 2] [3, 4, 5] 3 rfl rfl rfl rfl rfl rfl rfl hl.1 rfl (Nat.le_of_ble_eq_true rfl) ⟨Nat.zero_le _, Nat.zero_le _⟩ dX0_commonDream_37 ?_
        clear hP hD hS; intro H locs hP hD hS
        cases hf
        rw [hQ]
        exact r_iret C hr hP hD hS rfl dX0_commonDream_40
      · replace hf := it_f c_7 hf
        refine lv_aload_n (pc := 10) hx hb dX0_commonDream_10 rfl (lv_at hl 0 rfl) ?_
        refine lv_iload_n (pc := 11) hx hb dX0_commonDream_11 rfl (lv_at hl 2 rfl) ?_
        refine lv_iload_n (pc := 12) hx hb dX0_commonDream_12 rfl (lv_at hl 1 rfl) ?_
        obtain ⟨r_13, hc_13, hf⟩ := bd1 hf
        refine r_dalVi (pc := 13) (ws' := (wX0_commonDream E h h_trial h_inn h_dreams h_plain h_set h_tried h_kin h_fitters v_count v_fitting v_fitters v_dreams)) (As := [.int x2_2, .int p0]) (rest := []) C (ctX0_dreamIn l E h h_trial h_inn h_dreams h_plain h_set h_tried h_kin h_fitters v_count v_fitting v_fitters v_dreams N x2_2 p0 r_13 hc_13) ml_X0_100 ⟨Nat.le_of_ble_eq_true rfl, Nat.le_of_ble_eq_true rfl⟩ hP hD hS 0 rfl rfl rfl [0, 1, 2] [3, 4, 5] 3 rfl rfl rfl rfl rfl rfl rfl hl.1 rfl (Nat.le_of_ble_eq_true rfl) ⟨Nat.zero_le _, Nat.zero_le _⟩ dX0_commonDream_13 ?_
        clear hP hD hS; intro H locs hP hD hS
        refine lv_aload_n (pc := 16) hx hb dX0_commonDream_16 rfl (lv_at hl 0 rfl) ?_
        refine lv_iconst (pc := 17) (v := 0) hx hb dX0_commonDream_17 (by decide) ?_
        refine lv_iload_n (pc := 18) hx hb dX0_commonDream_18 rfl (lv_at hl 1 rfl) ?_
        obtain ⟨r_19, hc_19, hf⟩ := bd1 hf
        refine r_dalVi (pc := 19) (ws' := (wX0_commonDream E h h_trial h_inn h_dreams h_plain h_set h_tried h_kin h_fitters v_count v_fitting v_fitters v_dreams)) (As := [.int 0, .int p0]) (rest := [.int r_13]) C (ctX0_dreamIn l E h h_trial h_inn h_dreams h_plain h_set h_tried h_kin h_fitters v_count v_fitting v_fitters v_dreams N 0 p0 r_19 hc_19) ml_X0_100 ⟨Nat.le_of_ble_eq_true rfl, Nat.le_of_ble_eq_true rfl⟩ hP hD hS 0 rfl rfl rfl [0, 1, 2] [3, 4, 5] 3 rfl rfl rfl rfl rfl rfl rfl hl.1 rfl (Nat.le_of_ble_eq_true rfl) ⟨Nat.zero_le _, Nat.zero_le _⟩ dX0_commonDream_19 ?_
        clear hP hD hS; intro H locs hP hD hS
        refine lv_icmp_eq (pc := 22) (tgt := 28) hx hb dX0_commonDream_22 (by decide) (fun c_22 => ?_) (fun c_22 => ?_)
        · replace hf := it_t c_22 hf
          refine lv_iinc (pc := 28) (v := x2_2 + 1) (lv' := [(2, .int (x2_2 + 1)), (0, .ref h), (1, .int p0)]) hx hb dX0_commonDream_28 hl (k := 2) rfl rfl (by decide) rfl (fun ls hl => ?_)
          refine lv_goto (pc := 31) (tgt := 2) hx hb dX0_commonDream_31 (by decide) ?_
          exact ih2 (x2_2 + 1) hf _ _ _ (lv_sub hl [1, 2, 0] rfl) hP hD hS
        · replace hf := it_f c_22 hf
          refine lv_bipush (pc := 25) (v := (-2)) hx hb dX0_commonDream_25 (by decide) ?_
          cases hf
          rw [hQ]
          exact r_iret C hr hP hD hS rfl dX0_commonDream_27
  exact key2 _ 1 hf _ _ _ (lv_sub hl [1, 2, 0] rfl) hP hD hS
def wX10_sure (E : EN) (h h_reader h_inn h_chosen h_night h_marks h_notes h_casts h_inn_house h_inn_thingIn h_inn_full h_inn_states h_inn_bed h_inn_dreamOf h_inn_listensIn h_casts_trial h_casts_dreams h_casts_plain h_casts_set h_casts_tried h_casts_kin h_casts_fitters h_notes_book h_notes_sort h_notes_one h_notes_other h_casts_plain_rows : Nat) (v_marked : Int32) (v_refusal : Int32) (v_latestFault : Int32) (v_faultPlace : Int32) (v_inn_minutes : Int32) (v_inn_things : Int32) (v_inn_dreams : Int32) (v_inn_sleepers : Int32) (v_inn_listeners : Int32) (v_casts_count : Int32) (v_casts_fitting : Int32) (v_notes_count : Int32) (v_notes_book : Nat → Int32) (v_notes_sort : Nat → Int32) (v_notes_one : Nat → Int32) (v_casts_plain_rows : Nat → Int64) (v_notes_other : Nat → Int32) (v_casts_fitters : Nat → Int32) (v_casts_dreams : Nat → Int32) : va_W := [(h, .inr (9, [.ref h_reader, .ref h_inn, .ref h_chosen, .ref h_night, .ref h_marks, .int v_marked, .ref h_notes, .ref h_casts, .int v_refusal, .int v_latestFault, .int v_faultPlace])), (h_inn, .inr (2, [.ref h_inn_house, .int v_inn_minutes, .int v_inn_things, .ref h_inn_thingIn, .ref h_inn_full, .int v_inn_dreams, .ref h_inn_states, .int v_inn_sleepers, .ref h_inn_bed, .ref h_inn_dreamOf, .int v_inn_listeners, .ref h_inn_listensIn])), (h_casts, .inr (0, [.ref h_casts_trial, .ref h_inn, .int v_casts_count, .ref h_casts_dreams, .ref h_casts_plain, .ref h_casts_set, .ref h_casts_tried, .ref h_casts_kin, .int v_casts_fitting, .ref h_casts_fitters])), (h_notes, .inr (5, [.ref h_notes_book, .ref h_notes_sort, .ref h_notes_one, .ref h_notes_other, .int v_notes_count])), (h_notes_book, aI E 20 v_notes_book), (h_notes_sort, aI E 20 v_notes_sort), (h_notes_one, aI E 20 v_notes_one), (h_casts_plain, .inr (3, [.ref h_casts_plain_rows])), (h_casts_plain_rows, aJ E 256 v_casts_plain_rows), (h_notes_other, aI E 20 v_notes_other), (h_casts_fitters, aI E 64 v_casts_fitters), (h_casts_dreams, aI E 192 v_casts_dreams)]
def fX10_sure (N : Nat) (p0 : Int32) (v_inn_sleepers : Int32) (v_casts_count : Int32) (v_casts_fitting : Int32) (v_notes_count : Int32) (v_notes_book : Nat → Int32) (v_notes_sort : Nat → Int32) (v_notes_one : Nat → Int32) (v_casts_plain_rows : Nat → Int64) (v_notes_other : Nat → Int32) (v_casts_fitters : Nat → Int32) (v_casts_dreams : Nat → Int32) : Option (Int32 × Int32 × Int32 × (Nat → Int32)) := (fX10_isSleeper N p0 v_inn_sleepers).bind (un1 fun (r_2 : Int32) => if r_2 = 0 then ((fX10_refuse N 1).bind (un2 fun (r_10 : Int32) (v_refusal_10 : Int32) => some (r_10, v_refusal_10, v_casts_fitting, v_casts_fitters))) else ((fX0_gather N 3 v_casts_count v_notes_count v_notes_book v_notes_sort v_notes_one v_casts_plain_rows v_notes_other v_casts_fitters).bind (un3 fun (r_23 : Int32) (v_casts_fitting_23 : Int32) (v_casts_fitters_23 : Nat → Int32) => if r_23 = 0 then ((fX10_refuse N 6).bind (un2 fun (r_32 : Int32) (v_refusal_32 : Int32) => some (r_32, v_refusal_32, v_casts_fitting_23, v_casts_fitters_23))) else ((fX0_commonDream N p0 v_casts_fitting_23 v_casts_fitters_23 v_casts_dreams).bind (un1 fun (r_42 : Int32) => (fX10_answer N r_42).bind (un2 fun (r_45 : Int32) (v_refusal_45 : Int32) => some (r_45, v_refusal_45, v_casts_fitting_23, v_casts_fitters_23)))))))
set_option maxHeartbeats 4000000 in
set_option maxRecDepth 100000 in
theorem ctX10_sure (l : Launch) (E : EN) (h h_reader h_inn h_chosen h_night h_marks h_notes h_casts h_inn_house h_inn_thingIn h_inn_full h_inn_states h_inn_bed h_inn_dreamOf h_inn_listensIn h_casts_trial h_casts_dreams h_casts_plain h_casts_set h_casts_tried h_casts_kin h_casts_fitters h_notes_book h_notes_sort h_notes_one h_notes_other h_casts_plain_rows : Nat) (v_marked : Int32) (v_refusal : Int32) (v_latestFault : Int32) (v_faultPlace : Int32) (v_inn_minutes : Int32) (v_inn_things : Int32) (v_inn_dreams : Int32) (v_inn_sleepers : Int32) (v_inn_listeners : Int32) (v_casts_count : Int32) (v_casts_fitting : Int32) (v_notes_count : Int32) (v_notes_book : Nat → Int32) (v_notes_sort : Nat → Int32) (v_notes_one : Nat → Int32) (v_casts_plain_rows : Nat → Int64) (v_notes_other : Nat → Int32) (v_casts_fitters : Nat → Int32) (v_casts_dreams : Nat → Int32) (N : Nat) (p0 : Int32) (z : Int32 × Int32 × Int32 × (Nat → Int32)) (hf : fX10_sure N p0 v_inn_sleepers v_casts_count v_casts_fitting v_notes_count v_notes_book v_notes_sort v_notes_one v_casts_plain_rows v_notes_other v_casts_fitters v_casts_dreams = some z) : CTi l E yX10_sure cX10_sure 2 .int 5 115 [.ref h, .int p0] (wX10_sure E h h_reader h_inn h_chosen h_night h_marks h_notes h_casts h_inn_house h_inn_thingIn h_inn_full h_inn_states h_inn_bed h_inn_dreamOf h_inn_listensIn h_casts_trial h_casts_dreams h_casts_plain h_casts_set h_casts_tried h_casts_kin h_casts_fitters h_notes_book h_notes_sort h_notes_one h_notes_other h_casts_plain_rows v_marked v_refusal v_latestFault v_faultPlace v_inn_minutes v_inn_things v_inn_dreams v_inn_sleepers v_inn_listeners v_casts_count v_casts_fitting v_notes_count v_notes_book v_notes_sort v_notes_one v_casts_plain_rows v_notes_other v_casts_fitters v_casts_dreams) (z.1) (wX10_sure E h h_reader h_inn h_chosen h_night h_marks h_notes h_casts h_inn_house h_inn_thingIn h_inn_full h_inn_states h_inn_bed h_inn_dreamOf h_inn_listensIn h_casts_trial h_casts_dreams h_casts_plain h_casts_set h_casts_tried h_casts_kin h_casts_fitters h_notes_book h_notes_sort h_notes_one h_notes_other h_casts_plain_rows v_marked z.2.1 v_latestFault v_faultPlace v_inn_minutes v_inn_things v_inn_dreams v_inn_sleepers v_inn_listeners v_casts_count z.2.2.1 v_notes_count v_notes_book v_notes_sort v_notes_one v_casts_plain_rows v_notes_other z.2.2.2 v_casts_dreams) := by
  intro sz
  refine ct_body (by decide) (Nat.le_of_ble_eq_true rfl) ?_
  intro p e s m args below meth c A ls hAe C hr hin hP hD hS hl
  have C : CX p s m args meth c cX10_sure RX10 2 E A := C
  have hl : lv_has ls 2 [(0, .ref h), (1, .int p0)] := hl
  have hx := C.1
  have hb := C.2.1
  rw [hAe]
  clear hAe
  obtain ⟨Q, hQ⟩ : ∃ Q, Q = MQ below (Qi E A (z.1) (wX10_sure E h h_reader h_inn h_chosen h_night h_marks h_notes h_casts h_inn_house h_inn_thingIn h_inn_full h_inn_states h_inn_bed h_inn_dreamOf h_inn_listensIn h_casts_trial h_casts_dreams h_casts_plain h_casts_set h_casts_tried h_casts_kin h_casts_fitters h_notes_book h_notes_sort h_notes_one h_notes_other h_casts_plain_rows v_marked z.2.1 v_latestFault v_faultPlace v_inn_minutes v_inn_things v_inn_dreams v_inn_sleepers v_inn_listeners v_casts_count z.2.2.1 v_notes_count v_notes_book v_notes_sort v_notes_one v_casts_plain_rows v_notes_other z.2.2.2 v_casts_dreams)) args s 0 0 A := ⟨_, rfl⟩
  rw [← hQ]
  unfold fX10_sure at hf
  refine lv_aload_n (pc := 0) hx hb dX10_sure_0 rfl (lv_at hl 0 rfl) ?_
  refine lv_iload_n (pc := 1) hx hb dX10_sure_1 rfl (lv_at hl 1 rfl) ?_
  obtain ⟨r_2, hc_2, hf⟩ := bd1 hf
  refine r_dalVi (pc := 2) (ws' := (wX10_sure E h h_reader h_inn h_chosen h_night h_marks h_notes h_casts h_inn_house h_inn_thingIn h_inn_full h_inn_states h_inn_bed h_inn_dreamOf h_inn_listensIn h_casts_trial h_casts_dreams h_casts_plain h_casts_set h_casts_tried h_casts_kin h_casts_fitters h_notes_book h_notes_sort h_notes_one h_notes_other h_casts_plain_rows v_marked v_refusal v_latestFault v_faultPlace v_inn_minutes v_inn_things v_inn_dreams v_inn_sleepers v_inn_listeners v_casts_count v_casts_fitting v_notes_count v_notes_book v_notes_sort v_notes_one v_casts_plain_rows v_notes_other v_casts_fitters v_casts_dreams)) (As := [.int p0]) (rest := []) C (ctX10_isSleeper l E h h_reader h_inn h_chosen h_night h_marks h_notes h_casts h_inn_house h_inn_thingIn h_inn_full h_inn_states h_inn_bed h_inn_dreamOf h_inn_listensIn v_marked v_refusal v_latestFault v_faultPlace v_inn_minutes v_inn_things v_inn_dreams v_inn_sleepers v_inn_listeners N p0 r_2 hc_2) ml_X10_167 ⟨Nat.le_of_ble_eq_true rfl, Nat.le_of_ble_eq_true rfl⟩ hP hD hS 0 rfl rfl rfl [0, 1] [12, 13, 2, 3, 4, 5, 6, 7, 8, 9, 10, 11] 12 rfl rfl rfl rfl rfl rfl rfl hl.1 rfl (Nat.le_of_ble_eq_true rfl) ⟨Nat.zero_le _, Nat.zero_le _⟩ dX10_sure_2 ?_
  clear hP hD hS; intro H locs hP hD hS
  refine lv_if_ne (pc := 5) (tgt := 14) hx hb dX10_sure_5 (by decide) (fun c_5 => ?_) (fun c_5 => ?_)
  · replace hf := it_f c_5 hf
    refine lv_aload_n (pc := 14) hx hb dX10_sure_14 rfl (lv_at hl 0 rfl) ?_
    refine r_get (pc := 15) C hP 0 rfl fl_X10_50 rfl dX10_sure_15 ?_
    refine lv_aload_n (pc := 18) hx hb dX10_sure_18 rfl (lv_at hl 0 rfl) ?_
    refine r_get (pc := 19) C hP 0 rfl fl_X10_43 rfl dX10_sure_19 ?_
    refine lv_iconst (pc := 22) (v := 3) hx hb dX10_sure_22 (by decide) ?_
    obtain ⟨r_23, v_casts_fitting_23, v_casts_fitters_23, hc_23, hf⟩ := bd3 hf
    refine r_dalVi (pc := 23) (ws' := (wX10_sure E h h_reader h_inn h_chosen h_night h_marks h_notes h_casts h_inn_house h_inn_thingIn h_inn_full h_inn_states h_inn_bed h_inn_dreamOf h_inn_listensIn h_casts_trial h_casts_dreams h_casts_plain h_casts_set h_casts_tried h_casts_kin h_casts_fitters h_notes_book h_notes_sort h_notes_one h_notes_other h_casts_plain_rows v_marked v_refusal v_latestFault v_faultPlace v_inn_minutes v_inn_things v_inn_dreams v_inn_sleepers v_inn_listeners v_casts_count v_casts_fitting_23 v_notes_count v_notes_book v_notes_sort v_notes_one v_casts_plain_rows v_notes_other v_casts_fitters_23 v_casts_dreams)) (As := [.ref h_notes, .int 3]) (rest := []) C (ctX0_gather l E h_casts h_casts_trial h_inn h_casts_dreams h_casts_plain h_casts_set h_casts_tried h_casts_kin h_casts_fitters h_notes h_notes_book h_notes_sort h_notes_one h_notes_other h_casts_plain_rows v_casts_count v_casts_fitting v_notes_count v_notes_book v_notes_sort v_notes_one v_casts_plain_rows v_notes_other v_casts_fitters N 3 (r_23, v_casts_fitting_23, v_casts_fitters_23) hc_23) ml_X10_262 ⟨Nat.le_of_ble_eq_true rfl, Nat.le_of_ble_eq_true rfl⟩ hP hD hS 2 rfl rfl rfl [2, 3, 4, 5, 6, 7, 8, 9, 10] [0, 1, 12, 13, 14, 15, 16, 17, 18, 19, 20, 11] 12 rfl rfl rfl rfl rfl rfl rfl hl.1 rfl (Nat.le_of_ble_eq_true rfl) ⟨Nat.zero_le _, Nat.zero_le _⟩ dX10_sure_23 ?_
    clear hP hD hS; intro H locs hP hD hS
    refine lv_if_ne (pc := 26) (tgt := 36) hx hb dX10_sure_26 (by decide) (fun c_26 => ?_) (fun c_26 => ?_)
    · replace hf := it_f c_26 hf
      refine lv_aload_n (pc := 36) hx hb dX10_sure_36 rfl (lv_at hl 0 rfl) ?_
      refine lv_aload_n (pc := 37) hx hb dX10_sure_37 rfl (lv_at hl 0 rfl) ?_
      refine r_get (pc := 38) C hP 0 rfl fl_X10_50 rfl dX10_sure_38 ?_
      refine lv_iload_n (pc := 41) hx hb dX10_sure_41 rfl (lv_at hl 1 rfl) ?_
      obtain ⟨r_42, hc_42, hf⟩ := bd1 hf
      refine r_dalVi (pc := 42) (ws' := (wX10_sure E h h_reader h_inn h_chosen h_night h_marks h_notes h_casts h_inn_house h_inn_thingIn h_inn_full h_inn_states h_inn_bed h_inn_dreamOf h_inn_listensIn h_casts_trial h_casts_dreams h_casts_plain h_casts_set h_casts_tried h_casts_kin h_casts_fitters h_notes_book h_notes_sort h_notes_one h_notes_other h_casts_plain_rows v_marked v_refusal v_latestFault v_faultPlace v_inn_minutes v_inn_things v_inn_dreams v_inn_sleepers v_inn_listeners v_casts_count v_casts_fitting_23 v_notes_count v_notes_book v_notes_sort v_notes_one v_casts_plain_rows v_notes_other v_casts_fitters_23 v_casts_dreams)) (As := [.int p0]) (rest := [.ref h]) C (ctX0_commonDream l E h_casts h_casts_trial h_inn h_casts_dreams h_casts_plain h_casts_set h_casts_tried h_casts_kin h_casts_fitters v_casts_count v_casts_fitting_23 v_casts_fitters_23 v_casts_dreams N p0 r_42 hc_42) ml_X10_269 ⟨Nat.le_of_ble_eq_true rfl, Nat.le_of_ble_eq_true rfl⟩ hP hD hS 2 rfl rfl rfl [2, 10, 11] [0, 1, 12, 3, 4, 5, 6, 7, 8, 9, 13, 14] 12 rfl rfl rfl rfl rfl rfl rfl hl.1 rfl (Nat.le_of_ble_eq_true rfl) ⟨Nat.zero_le _, Nat.zero_le _⟩ dX10_sure_42 ?_
      clear hP hD hS; intro H locs hP hD hS
      obtain ⟨r_45, v_refusal_45, hc_45, hf⟩ := bd2 hf
      refine r_dalVi (pc := 45) (ws' := (wX10_sure E h h_reader h_inn h_chosen h_night h_marks h_notes h_casts h_inn_house h_inn_thingIn h_inn_full h_inn_states h_inn_bed h_inn_dreamOf h_inn_listensIn h_casts_trial h_casts_dreams h_casts_plain h_casts_set h_casts_tried h_casts_kin h_casts_fitters h_notes_book h_notes_sort h_notes_one h_notes_other h_casts_plain_rows v_marked v_refusal_45 v_latestFault v_faultPlace v_inn_minutes v_inn_things v_inn_dreams v_inn_sleepers v_inn_listeners v_casts_count v_casts_fitting_23 v_notes_count v_notes_book v_notes_sort v_notes_one v_casts_plain_rows v_notes_other v_casts_fitters_23 v_casts_dreams)) (As := [.int r_42]) (rest := []) C (ctX10_answer l E h h_reader h_inn h_chosen h_night h_marks h_notes h_casts v_marked v_refusal v_latestFault v_faultPlace N r_42 (r_45, v_refusal_45) hc_45) ml_X10_95 ⟨Nat.le_of_ble_eq_true rfl, Nat.le_of_ble_eq_true rfl⟩ hP hD hS 0 rfl rfl rfl [0] [12, 1, 2, 3, 4, 5, 6, 7, 8, 9, 10, 11] 12 rfl rfl rfl rfl rfl rfl rfl hl.1 rfl (Nat.le_of_ble_eq_true rfl) ⟨Nat.zero_le _, Nat.zero_le _⟩ dX10_sure_45 ?_
      clear hP hD hS; intro H locs hP hD hS
      cases hf
      rw [hQ]
      exact r_iret C hr hP hD hS rfl dX10_sure_48
    · replace hf := it_t c_26 hf
      refine lv_aload_n (pc := 29) hx hb dX10_sure_29 rfl (lv_at hl 0 rfl) ?_
      refine lv_bipush (pc := 30) (v := 6) hx hb dX10_sure_30 (by decide) ?_
      obtain ⟨r_32, v_refusal_32, hc_32, hf⟩ := bd2 hf
      refine r_dalVi (pc := 32) (ws' := (wX10_sure E h h_reader h_inn h_chosen h_night h_marks h_notes h_casts h_inn_house h_inn_thingIn h_inn_full h_inn_states h_inn_bed h_inn_dreamOf h_inn_listensIn h_casts_trial h_casts_dreams h_casts_plain h_casts_set h_casts_tried h_casts_kin h_casts_fitters h_notes_book h_notes_sort h_notes_one h_notes_other h_casts_plain_rows v_marked v_refusal_32 v_latestFault v_faultPlace v_inn_minutes v_inn_things v_inn_dreams v_inn_sleepers v_inn_listeners v_casts_count v_casts_fitting_23 v_notes_count v_notes_book v_notes_sort v_notes_one v_casts_plain_rows v_notes_other v_casts_fitters_23 v_casts_dreams)) (As := [.int 6]) (rest := []) C (ctX10_refuse l E h h_reader h_inn h_chosen h_night h_marks h_notes h_casts v_marked v_refusal v_latestFault v_faultPlace N 6 (r_32, v_refusal_32) hc_32) ml_X10_68 ⟨Nat.le_of_ble_eq_true rfl, Nat.le_of_ble_eq_true rfl⟩ hP hD hS 0 rfl rfl rfl [0] [12, 1, 2, 3, 4, 5, 6, 7, 8, 9, 10, 11] 12 rfl rfl rfl rfl rfl rfl rfl hl.1 rfl (Nat.le_of_ble_eq_true rfl) ⟨Nat.zero_le _, Nat.zero_le _⟩ dX10_sure_32 ?_
      clear hP hD hS; intro H locs hP hD hS
      cases hf
      rw [hQ]
      exact r_iret C hr hP hD hS rfl dX10_sure_35
  · replace hf := it_t c_5 hf
    refine lv_aload_n (pc := 8) hx hb dX10_sure_8 rfl (lv_at hl 0 rfl) ?_
    refine lv_iconst (pc := 9) (v := 1) hx hb dX10_sure_9 (by decide) ?_
    obtain ⟨r_10, v_refusal_10, hc_10, hf⟩ := bd2 hf
    refine r_dalVi (pc := 10) (ws' := (wX10_sure E h h_reader h_inn h_chosen h_night h_marks h_notes h_casts h_inn_house h_inn_thingIn h_inn_full h_inn_states h_inn_bed h_inn_dreamOf h_inn_listensIn h_casts_trial h_casts_dreams h_casts_plain h_casts_set h_casts_tried h_casts_kin h_casts_fitters h_notes_book h_notes_sort h_notes_one h_notes_other h_casts_plain_rows v_marked v_refusal_10 v_latestFault v_faultPlace v_inn_minutes v_inn_things v_inn_dreams v_inn_sleepers v_inn_listeners v_casts_count v_casts_fitting v_notes_count v_notes_book v_notes_sort v_notes_one v_casts_plain_rows v_notes_other v_casts_fitters v_casts_dreams)) (As := [.int 1]) (rest := []) C (ctX10_refuse l E h h_reader h_inn h_chosen h_night h_marks h_notes h_casts v_marked v_refusal v_latestFault v_faultPlace N 1 (r_10, v_refusal_10) hc_10) ml_X10_68 ⟨Nat.le_of_ble_eq_true rfl, Nat.le_of_ble_eq_true rfl⟩ hP hD hS 0 rfl rfl rfl [0] [12, 1, 2, 3, 4, 5, 6, 7, 8, 9, 10, 11] 12 rfl rfl rfl rfl rfl rfl rfl hl.1 rfl (Nat.le_of_ble_eq_true rfl) ⟨Nat.zero_le _, Nat.zero_le _⟩ dX10_sure_10 ?_
    clear hP hD hS; intro H locs hP hD hS
    cases hf
    rw [hQ]
    exact r_iret C hr hP hD hS rfl dX10_sure_13
def wX10_verdict (E : EN) (h h_reader h_inn h_chosen h_night h_marks h_notes h_casts h_inn_house h_inn_thingIn h_inn_full h_inn_states h_inn_bed h_inn_dreamOf h_inn_listensIn h_casts_trial h_casts_dreams h_casts_plain h_casts_set h_casts_tried h_casts_kin h_casts_fitters h_notes_book h_notes_sort h_notes_one h_notes_other h_casts_plain_rows : Nat) (v_marked : Int32) (v_refusal : Int32) (v_latestFault : Int32) (v_faultPlace : Int32) (v_inn_minutes : Int32) (v_inn_things : Int32) (v_inn_dreams : Int32) (v_inn_sleepers : Int32) (v_inn_listeners : Int32) (v_casts_count : Int32) (v_casts_fitting : Int32) (v_notes_count : Int32) (v_notes_book : Nat → Int32) (v_notes_sort : Nat → Int32) (v_notes_one : Nat → Int32) (v_casts_plain_rows : Nat → Int64) (v_notes_other : Nat → Int32) (v_casts_fitters : Nat → Int32) : va_W := [(h, .inr (9, [.ref h_reader, .ref h_inn, .ref h_chosen, .ref h_night, .ref h_marks, .int v_marked, .ref h_notes, .ref h_casts, .int v_refusal, .int v_latestFault, .int v_faultPlace])), (h_inn, .inr (2, [.ref h_inn_house, .int v_inn_minutes, .int v_inn_things, .ref h_inn_thingIn, .ref h_inn_full, .int v_inn_dreams, .ref h_inn_states, .int v_inn_sleepers, .ref h_inn_bed, .ref h_inn_dreamOf, .int v_inn_listeners, .ref h_inn_listensIn])), (h_casts, .inr (0, [.ref h_casts_trial, .ref h_inn, .int v_casts_count, .ref h_casts_dreams, .ref h_casts_plain, .ref h_casts_set, .ref h_casts_tried, .ref h_casts_kin, .int v_casts_fitting, .ref h_casts_fitters])), (h_notes, .inr (5, [.ref h_notes_book, .ref h_notes_sort, .ref h_notes_one, .ref h_notes_other, .int v_notes_count])), (h_notes_book, aI E 20 v_notes_book), (h_notes_sort, aI E 20 v_notes_sort), (h_notes_one, aI E 20 v_notes_one), (h_casts_plain, .inr (3, [.ref h_casts_plain_rows])), (h_casts_plain_rows, aJ E 256 v_casts_plain_rows), (h_notes_other, aI E 20 v_notes_other), (h_casts_fitters, aI E 64 v_casts_fitters)]
def fX10_verdict (N : Nat) (v_inn_minutes : Int32) (v_casts_count : Int32) (v_casts_fitting : Int32) (v_notes_count : Int32) (v_notes_book : Nat → Int32) (v_notes_sort : Nat → Int32) (v_notes_one : Nat → Int32) (v_casts_plain_rows : Nat → Int64) (v_notes_other : Nat → Int32) (v_casts_fitters : Nat → Int32) : Option (Int32 × Int32 × Int32 × (Nat → Int32)) := (fX10_isTold N v_inn_minutes).bind (un1 fun (r_1 : Int32) => if r_1 = 0 then ((fX10_refuse N 1).bind (un2 fun (r_9 : Int32) (v_refusal_9 : Int32) => some (r_9, v_refusal_9, v_casts_fitting, v_casts_fitters))) else ((fX0_gather N 3 v_casts_count v_notes_count v_notes_book v_notes_sort v_notes_one v_casts_plain_rows v_notes_other v_casts_fitters).bind (un3 fun (r_22 : Int32) (v_casts_fitting_22 : Int32) (v_casts_fitters_22 : Nat → Int32) => if r_22 ≤ 0 then ((fX0_gather N 1 v_casts_count v_notes_count v_notes_book v_notes_sort v_notes_one v_casts_plain_rows v_notes_other v_casts_fitters_22).bind (un3 fun (r_43 : Int32) (v_casts_fitting_43 : Int32) (v_casts_fitters_43 : Nat → Int32) => jn (un1 fun (x54_s0 : Int32) => (fX0_gather N 2 v_casts_count v_notes_count v_notes_book v_notes_sort v_notes_one v_casts_plain_rows v_notes_other v_casts_fitters_43).bind (un3 fun (r_64 : Int32) (v_casts_fitting_64 : Int32) (v_casts_fitters_64 : Nat → Int32) => jn (un1 fun (x75_s0 : Int32) => if x54_s0 = 0 then (if x75_s0 = 0 then ((fX10_answer N 4).bind (un2 fun (r_104 : Int32) (v_refusal_104 : Int32) => some (r_104, v_refusal_104, v_casts_fitting_64, v_casts_fitters_64))) else ((fX10_answer N 2).bind (un2 fun (r_104 : Int32) (v_refusal_104 : Int32) => some (r_104, v_refusal_104, v_casts_fitting_64, v_casts_fitters_64)))) else (if x75_s0 = 0 then ((fX10_answer N 1).bind (un2 fun (r_90 : Int32) (v_refusal_90 : Int32) => some (r_90, v_refusal_90, v_casts_fitting_64, v_casts_fitters_64))) else ((fX10_answer N 3).bind (un2 fun (r_90 : Int32) (v_refusal_90 : Int32) => some (r_90, v_refusal_90, v_casts_fitting_64, v_casts_fitters_64))))) (fun j75 => if r_64 ≤ 0 then (j75 0) else (j75 1)))) (fun j54 => if r_43 ≤ 0 then (j54 0) else (j54 1)))) else ((fX10_answer N 0).bind (un2 fun (r_30 : Int32) (v_refusal_30 : Int32) => some (r_30, v_refusal_30, v_casts_fitting_22, v_casts_fitters_22))))))
set_option maxHeartbeats 4000000 in
set_option maxRecDepth 100000 in
theorem ctX10_verdict (l : Launch) (E : EN) (h h_reader h_inn h_chosen h_night h_marks h_notes h_casts h_inn_house h_inn_thingIn h_inn_full h_inn_states h_inn_bed h_inn_dreamOf h_inn_listensIn h_casts_trial h_casts_dreams h_casts_plain h_casts_set h_casts_tried h_casts_kin h_casts_fitters h_notes_book h_notes_sort h_notes_one h_notes_other h_casts_plain_rows : Nat) (v_marked : Int32) (v_refusal : Int32) (v_latestFault : Int32) (v_faultPlace : Int32) (v_inn_minutes : Int32) (v_inn_things : Int32) (v_inn_dreams : Int32) (v_inn_sleepers : Int32) (v_inn_listeners : Int32) (v_casts_count : Int32) (v_casts_fitting : Int32) (v_notes_count : Int32) (v_notes_book : Nat → Int32) (v_notes_sort : Nat → Int32) (v_notes_one : Nat → Int32) (v_casts_plain_rows : Nat → Int64) (v_notes_other : Nat → Int32) (v_casts_fitters : Nat → Int32) (N : Nat) (z : Int32 × Int32 × Int32 × (Nat → Int32)) (hf : fX10_verdict N v_inn_minutes v_casts_count v_casts_fitting v_notes_count v_notes_book v_notes_sort v_notes_one v_casts_plain_rows v_notes_other v_casts_fitters = some z) : CTi l E yX10_verdict cX10_verdict 3 .int 5 115 [.ref h] (wX10_verdict E h h_reader h_inn h_chosen h_night h_marks h_notes h_casts h_inn_house h_inn_thingIn h_inn_full h_inn_states h_inn_bed h_inn_dreamOf h_inn_listensIn h_casts_trial h_casts_dreams h_casts_plain h_casts_set h_casts_tried h_casts_kin h_casts_fitters h_notes_book h_notes_sort h_notes_one h_notes_other h_casts_plain_rows v_marked v_refusal v_latestFault v_faultPlace v_inn_minutes v_inn_things v_inn_dreams v_inn_sleepers v_inn_listeners v_casts_count v_casts_fitting v_notes_count v_notes_book v_notes_sort v_notes_one v_casts_plain_rows v_notes_other v_casts_fitters) (z.1) (wX10_verdict E h h_reader h_inn h_chosen h_night h_marks h_notes h_casts h_inn_house h_inn_thingIn h_inn_full h_inn_states h_inn_bed h_inn_dreamOf h_inn_listensIn h_casts_trial h_casts_dreams h_casts_plain h_casts_set h_casts_tried h_casts_kin h_casts_fitters h_notes_book h_notes_sort h_notes_one h_notes_other h_casts_plain_rows v_marked z.2.1 v_latestFault v_faultPlace v_inn_minutes v_inn_things v_inn_dreams v_inn_sleepers v_inn_listeners v_casts_count z.2.2.1 v_notes_count v_notes_book v_notes_sort v_notes_one v_casts_plain_rows v_notes_other z.2.2.2) := by
  intro sz
  refine ct_body (by decide) (Nat.le_of_ble_eq_true rfl) ?_
  intro p e s m args below meth c A ls hAe C hr hin hP hD hS hl
  have C : CX p s m args meth c cX10_verdict RX10 3 E A := C
  have hl : lv_has ls 3 [(0, .ref h)] := hl
  have hx := C.1
  have hb := C.2.1
  rw [hAe]
  clear hAe
  obtain ⟨Q, hQ⟩ : ∃ Q, Q = MQ below (Qi E A (z.1) (wX10_verdict E h h_reader h_inn h_chosen h_night h_marks h_notes h_casts h_inn_house h_inn_thingIn h_inn_full h_inn_states h_inn_bed h_inn_dreamOf h_inn_listensIn h_casts_trial h_casts_dreams h_casts_plain h_casts_set h_casts_tried h_casts_kin h_casts_fitters h_notes_book h_notes_sort h_notes_one h_notes_other h_casts_plain_rows v_marked z.2.1 v_latestFault v_faultPlace v_inn_minutes v_inn_things v_inn_dreams v_inn_sleepers v_inn_listeners v_casts_count z.2.2.1 v_notes_count v_notes_book v_notes_sort v_notes_one v_casts_plain_rows v_notes_other z.2.2.2)) args s 0 0 A := ⟨_, rfl⟩
  rw [← hQ]
  unfold fX10_verdict at hf
  refine lv_aload_n (pc := 0) hx hb dX10_verdict_0 rfl (lv_at hl 0 rfl) ?_
  obtain ⟨r_1, hc_1, hf⟩ := bd1 hf
  refine r_dalVi (pc := 1) (ws' := (wX10_verdict E h h_reader h_inn h_chosen h_night h_marks h_notes h_casts h_inn_house h_inn_thingIn h_inn_full h_inn_states h_inn_bed h_inn_dreamOf h_inn_listensIn h_casts_trial h_casts_dreams h_casts_plain h_casts_set h_casts_tried h_casts_kin h_casts_fitters h_notes_book h_notes_sort h_notes_one h_notes_other h_casts_plain_rows v_marked v_refusal v_latestFault v_faultPlace v_inn_minutes v_inn_things v_inn_dreams v_inn_sleepers v_inn_listeners v_casts_count v_casts_fitting v_notes_count v_notes_book v_notes_sort v_notes_one v_casts_plain_rows v_notes_other v_casts_fitters)) (As := []) (rest := []) C (ctX10_isTold l E h h_reader h_inn h_chosen h_night h_marks h_notes h_casts h_inn_house h_inn_thingIn h_inn_full h_inn_states h_inn_bed h_inn_dreamOf h_inn_listensIn v_marked v_refusal v_latestFault v_faultPlace v_inn_minutes v_inn_things v_inn_dreams v_inn_sleepers v_inn_listeners N r_1 hc_1) ml_X10_170 ⟨Nat.le_of_ble_eq_true rfl, Nat.le_of_ble_eq_true rfl⟩ hP hD hS 0 rfl rfl rfl [0, 1] [11, 12, 2, 3, 4, 5, 6, 7, 8, 9, 10] 11 rfl rfl rfl rfl rfl rfl rfl hl.1 rfl (Nat.le_of_ble_eq_true rfl) ⟨Nat.zero_le _, Nat.zero_le _⟩ dX10_verdict_1 ?_
  clear hP hD hS; intro H locs hP hD hS
  refine lv_if_ne (pc := 4) (tgt := 13) hx hb dX10_verdict_4 (by decide) (fun c_4 => ?_) (fun c_4 => ?_)
  · replace hf := it_f c_4 hf
    refine lv_aload_n (pc := 13) hx hb dX10_verdict_13 rfl (lv_at hl 0 rfl) ?_
    refine r_get (pc := 14) C hP 0 rfl fl_X10_50 rfl dX10_verdict_14 ?_
    refine lv_aload_n (pc := 17) hx hb dX10_verdict_17 rfl (lv_at hl 0 rfl) ?_
    refine r_get (pc := 18) C hP 0 rfl fl_X10_43 rfl dX10_verdict_18 ?_
    refine lv_iconst (pc := 21) (v := 3) hx hb dX10_verdict_21 (by decide) ?_
    obtain ⟨r_22, v_casts_fitting_22, v_casts_fitters_22, hc_22, hf⟩ := bd3 hf
    refine r_dalVi (pc := 22) (ws' := (wX10_verdict E h h_reader h_inn h_chosen h_night h_marks h_notes h_casts h_inn_house h_inn_thingIn h_inn_full h_inn_states h_inn_bed h_inn_dreamOf h_inn_listensIn h_casts_trial h_casts_dreams h_casts_plain h_casts_set h_casts_tried h_casts_kin h_casts_fitters h_notes_book h_notes_sort h_notes_one h_notes_other h_casts_plain_rows v_marked v_refusal v_latestFault v_faultPlace v_inn_minutes v_inn_things v_inn_dreams v_inn_sleepers v_inn_listeners v_casts_count v_casts_fitting_22 v_notes_count v_notes_book v_notes_sort v_notes_one v_casts_plain_rows v_notes_other v_casts_fitters_22)) (As := [.ref h_notes, .int 3]) (rest := []) C (ctX0_gather l E h_casts h_casts_trial h_inn h_casts_dreams h_casts_plain h_casts_set h_casts_tried h_casts_kin h_casts_fitters h_notes h_notes_book h_notes_sort h_notes_one h_notes_other h_casts_plain_rows v_casts_count v_casts_fitting v_notes_count v_notes_book v_notes_sort v_notes_one v_casts_plain_rows v_notes_other v_casts_fitters N 3 (r_22, v_casts_fitting_22, v_casts_fitters_22) hc_22) ml_X10_262 ⟨Nat.le_of_ble_eq_true rfl, Nat.le_of_ble_eq_true rfl⟩ hP hD hS 2 rfl rfl rfl [2, 3, 4, 5, 6, 7, 8, 9, 10] [0, 1, 11, 12, 13, 14, 15, 16, 17, 18, 19] 11 rfl rfl rfl rfl rfl rfl rfl hl.1 rfl (Nat.le_of_ble_eq_true rfl) ⟨Nat.zero_le _, Nat.zero_le _⟩ dX10_verdict_22 ?_
    clear hP hD hS; intro H locs hP hD hS
    refine lv_if_le (pc := 25) (tgt := 34) hx hb dX10_verdict_25 (by decide) (fun c_25 => ?_) (fun c_25 => ?_)
    · replace hf := it_t c_25 hf
      refine lv_aload_n (pc := 34) hx hb dX10_verdict_34 rfl (lv_at hl 0 rfl) ?_
      refine r_get (pc := 35) C hP 0 rfl fl_X10_50 rfl dX10_verdict_35 ?_
      refine lv_aload_n (pc := 38) hx hb dX10_verdict_38 rfl (lv_at hl 0 rfl) ?_
      refine r_get (pc := 39) C hP 0 rfl fl_X10_43 rfl dX10_verdict_39 ?_
      refine lv_iconst (pc := 42) (v := 1) hx hb dX10_verdict_42 (by decide) ?_
      obtain ⟨r_43, v_casts_fitting_43, v_casts_fitters_43, hc_43, hf⟩ := bd3 hf
      refine r_dalVi (pc := 43) (ws' := (wX10_verdict E h h_reader h_inn h_chosen h_night h_marks h_notes h_casts h_inn_house h_inn_thingIn h_inn_full h_inn_states h_inn_bed h_inn_dreamOf h_inn_listensIn h_casts_trial h_casts_dreams h_casts_plain h_casts_set h_casts_tried h_casts_kin h_casts_fitters h_notes_book h_notes_sort h_notes_one h_notes_other h_casts_plain_rows v_marked v_refusal v_latestFault v_faultPlace v_inn_minutes v_inn_things v_inn_dreams v_inn_sleepers v_inn_listeners v_casts_count v_casts_fitting_43 v_notes_count v_notes_book v_notes_sort v_notes_one v_casts_plain_rows v_notes_other v_casts_fitters_43)) (As := [.ref h_notes, .int 1]) (rest := []) C (ctX0_gather l E h_casts h_casts_trial h_inn h_casts_dreams h_casts_plain h_casts_set h_casts_tried h_casts_kin h_casts_fitters h_notes h_notes_book h_notes_sort h_notes_one h_notes_other h_casts_plain_rows v_casts_count v_casts_fitting_22 v_notes_count v_notes_book v_notes_sort v_notes_one v_casts_plain_rows v_notes_other v_casts_fitters_22 N 1 (r_43, v_casts_fitting_43, v_casts_fitters_43) hc_43) ml_X10_262 ⟨Nat.le_of_ble_eq_true rfl, Nat.le_of_ble_eq_true rfl⟩ hP hD hS 2 rfl rfl rfl [2, 3, 4, 5, 6, 7, 8, 9, 10] [0, 1, 11, 12, 13, 14, 15, 16, 17, 18, 19] 11 rfl rfl rfl rfl rfl rfl rfl hl.1 rfl (Nat.le_of_ble_eq_true rfl) ⟨Nat.zero_le _, Nat.zero_le _⟩ dX10_verdict_43 ?_
      clear hP hD hS; intro H locs hP hD hS
      refine jnK hf (fun j54 ej54 hf => ?_)
      have hj54 : ∀ (x54_s0 : Int32) , j54 x54_s0 = some z → AT p l e (rmOf 5 115) s m args below meth c E A Q 0 0 3 [(0, .ref h)] (wX10_verdict E h h_reader h_inn h_chosen h_night h_marks h_notes h_casts h_inn_house h_inn_thingIn h_inn_full h_inn_states h_inn_bed h_inn_dreamOf h_inn_listensIn h_casts_trial h_casts_dreams h_casts_plain h_casts_set h_casts_tried h_casts_kin h_casts_fitters h_notes_book h_notes_sort h_notes_one h_notes_other h_casts_plain_rows v_marked v_refusal v_latestFault v_faultPlace v_inn_minutes v_inn_things v_inn_dreams v_inn_sleepers v_inn_listeners v_casts_count v_casts_fitting_43 v_notes_count v_notes_book v_notes_sort v_notes_one v_casts_plain_rows v_notes_other v_casts_fitters_43) 54 [.int x54_s0] := by
        intro x54_s0 hf H locs ls hl hP hD hS
        rw [ej54] at hf
        replace hf := un1_s hf
        refine lv_istore_n (pc := 54) (lv' := [(1, .int x54_s0), (0, .ref h)]) hx hb dX10_verdict_54 rfl hl (by decide) rfl (fun ls hl => ?_)
        refine lv_aload_n (pc := 55) hx hb dX10_verdict_55 rfl (lv_at hl 1 rfl) ?_
        refine r_get (pc := 56) C hP 0 rfl fl_X10_50 rfl dX10_verdict_56 ?_
        refine lv_aload_n (pc := 59) hx hb dX10_verdict_59 rfl (lv_at hl 1 rfl) ?_
        refine r_get (pc := 60) C hP 0 rfl fl_X10_43 rfl dX10_verdict_60 ?_
        refine lv_iconst (pc := 63) (v := 2) hx hb dX10_verdict_63 (by decide) ?_
        obtain ⟨r_64, v_casts_fitting_64, v_casts_fitters_64, hc_64, hf⟩ := bd3 hf
        refine r_dalVi (pc := 64) (ws' := (wX10_verdict E h h_reader h_inn h_chosen h_night h_marks h_notes h_casts h_inn_house h_inn_thingIn h_inn_full h_inn_states h_inn_bed h_inn_dreamOf h_inn_listensIn h_casts_trial h_casts_dreams h_casts_plain h_casts_set h_casts_tried h_casts_kin h_casts_fitters h_notes_book h_notes_sort h_notes_one h_notes_other h_casts_plain_rows v_marked v_refusal v_latestFault v_faultPlace v_inn_minutes v_inn_things v_inn_dreams v_inn_sleepers v_inn_listeners v_casts_count v_casts_fitting_64 v_notes_count v_notes_book v_notes_sort v_notes_one v_casts_plain_rows v_notes_other v_casts_fitters_64)) (As := [.ref h_notes, .int 2]) (rest := []) C (ctX0_gather l E h_casts h_casts_trial h_inn h_casts_dreams h_casts_plain h_casts_set h_casts_tried h_casts_kin h_casts_fitters h_notes h_notes_book h_notes_sort h_notes_one h_notes_other h_casts_plain_rows v_casts_count v_casts_fitting_43 v_notes_count v_notes_book v_notes_sort v_notes_one v_casts_plain_rows v_notes_other v_casts_fitters_43 N 2 (r_64, v_casts_fitting_64, v_casts_fitters_64) hc_64) ml_X10_262 ⟨Nat.le_of_ble_eq_true rfl, Nat.le_of_ble_eq_true rfl⟩ hP hD hS 2 rfl rfl rfl [2, 3, 4, 5, 6, 7, 8, 9, 10] [0, 1, 11, 12, 13, 14, 15, 16, 17, 18, 19] 11 rfl rfl rfl rfl rfl rfl rfl hl.1 rfl (Nat.le_of_ble_eq_true rfl) ⟨Nat.zero_le _, Nat.zero_le _⟩ dX10_verdict_64 ?_
        clear hP hD hS; intro H locs hP hD hS
        refine jnK hf (fun j75 ej75 hf => ?_)
        have hj75 : ∀ (x75_s0 : Int32) , j75 x75_s0 = some z → AT p l e (rmOf 5 115) s m args below meth c E A Q 0 0 3 [(0, .ref h), (1, .int x54_s0)] (wX10_verdict E h h_reader h_inn h_chosen h_night h_marks h_notes h_casts h_inn_house h_inn_thingIn h_inn_full h_inn_states h_inn_bed h_inn_dreamOf h_inn_listensIn h_casts_trial h_casts_dreams h_casts_plain h_casts_set h_casts_tried h_casts_kin h_casts_fitters h_notes_book h_notes_sort h_notes_one h_notes_other h_casts_plain_rows v_marked v_refusal v_latestFault v_faultPlace v_inn_minutes v_inn_things v_inn_dreams v_inn_sleepers v_inn_listeners v_casts_count v_casts_fitting_64 v_notes_count v_notes_book v_notes_sort v_notes_one v_casts_plain_rows v_notes_other v_casts_fitters_64) 75 [.int x75_s0] := by
          intro x75_s0 hf H locs ls hl hP hD hS
          rw [ej75] at hf
          replace hf := un1_s hf
          refine lv_istore_n (pc := 75) (lv' := [(2, .int x75_s0), (0, .ref h), (1, .int x54_s0)]) hx hb dX10_verdict_75 rfl hl (by decide) rfl (fun ls hl => ?_)
          refine lv_iload_n (pc := 76) hx hb dX10_verdict_76 rfl (lv_at hl 2 rfl) ?_
          refine lv_if_eq (pc := 77) (tgt := 94) hx hb dX10_verdict_77 (by decide) (fun c_77 => ?_) (fun c_77 => ?_)
          · replace hf := it_t c_77 hf
            refine lv_aload_n (pc := 94) hx hb dX10_verdict_94 rfl (lv_at hl 1 rfl) ?_
            refine lv_iload_n (pc := 95) hx hb dX10_verdict_95 rfl (lv_at hl 0 rfl) ?_
            refine lv_if_eq (pc := 96) (tgt := 103) hx hb dX10_verdict_96 (by decide) (fun c_96 => ?_) (fun c_96 => ?_)
            · replace hf := it_t c_96 hf
              refine lv_iconst (pc := 103) (v := 4) hx hb dX10_verdict_103 (by decide) ?_
              obtain ⟨r_104, v_refusal_104, hc_104, hf⟩ := bd2 hf
              refine r_dalVi (pc := 104) (ws' := (wX10_verdict E h h_reader h_inn h_chosen h_night h_marks h_notes h_casts h_inn_house h_inn_thingIn h_inn_full h_inn_states h_inn_bed h_inn_dreamOf h_inn_listensIn h_casts_trial h_casts_dreams h_casts_plain h_casts_set h_casts_tried h_casts_kin h_casts_fitters h_notes_book h_notes_sort h_notes_one h_notes_other h_casts_plain_rows v_marked v_refusal_104 v_latestFault v_faultPlace v_inn_minutes v_inn_things v_inn_dreams v_inn_sleepers v_inn_listeners v_casts_count v_casts_fitting_64 v_notes_count v_notes_book v_notes_sort v_notes_one v_casts_plain_rows v_notes_other v_casts_fitters_64)) (As := [.int 4]) (rest := []) C (ctX10_answer l E h h_reader h_inn h_chosen h_night h_marks h_notes h_casts v_marked v_refusal v_latestFault v_faultPlace N 4 (r_104, v_refusal_104) hc_104) ml_X10_95 ⟨Nat.le_of_ble_eq_true rfl, Nat.le_of_ble_eq_true rfl⟩ hP hD hS 0 rfl rfl rfl [0] [11, 1, 2, 3, 4, 5, 6, 7, 8, 9, 10] 11 rfl rfl rfl rfl rfl rfl rfl hl.1 rfl (Nat.le_of_ble_eq_true rfl) ⟨Nat.zero_le _, Nat.zero_le _⟩ dX10_verdict_104 ?_
              clear hP hD hS; intro H locs hP hD hS
              cases hf
              rw [hQ]
              exact r_iret C hr hP hD hS rfl dX10_verdict_107
            · replace hf := it_f c_96 hf
              refine lv_iconst (pc := 99) (v := 2) hx hb dX10_verdict_99 (by decide) ?_
              refine lv_goto (pc := 100) (tgt := 104) hx hb dX10_verdict_100 (by decide) ?_
              obtain ⟨r_104, v_refusal_104, hc_104, hf⟩ := bd2 hf
              refine r_dalVi (pc := 104) (ws' := (wX10_verdict E h h_reader h_inn h_chosen h_night h_marks h_notes h_casts h_inn_house h_inn_thingIn h_inn_full h_inn_states h_inn_bed h_inn_dreamOf h_inn_listensIn h_casts_trial h_casts_dreams h_casts_plain h_casts_set h_casts_tried h_casts_kin h_casts_fitters h_notes_book h_notes_sort h_notes_one h_notes_other h_casts_plain_rows v_marked v_refusal_104 v_latestFault v_faultPlace v_inn_minutes v_inn_things v_inn_dreams v_inn_sleepers v_inn_listeners v_casts_count v_casts_fitting_64 v_notes_count v_notes_book v_notes_sort v_notes_one v_casts_plain_rows v_notes_other v_casts_fitters_64)) (As := [.int 2]) (rest := []) C (ctX10_answer l E h h_reader h_inn h_chosen h_night h_marks h_notes h_casts v_marked v_refusal v_latestFault v_faultPlace N 2 (r_104, v_refusal_104) hc_104) ml_X10_95 ⟨Nat.le_of_ble_eq_true rfl, Nat.le_of_ble_eq_true rfl⟩ hP hD hS 0 rfl rfl rfl [0] [11, 1, 2, 3, 4, 5, 6, 7, 8, 9, 10] 11 rfl rfl rfl rfl rfl rfl rfl hl.1 rfl (Nat.le_of_ble_eq_true rfl) ⟨Nat.zero_le _, Nat.zero_le _⟩ dX10_verdict_104 ?_
              clear hP hD hS; intro H locs hP hD hS
              cases hf
              rw [hQ]
              exact r_iret C hr hP hD hS rfl dX10_verdict_107
          · replace hf := it_f c_77 hf
            refine lv_aload_n (pc := 80) hx hb dX10_verdict_80 rfl (lv_at hl 1 rfl) ?_
            refine lv_iload_n (pc := 81) hx hb dX10_verdict_81 rfl (lv_at hl 0 rfl) ?_
            refine lv_if_eq (pc := 82) (tgt := 89) hx hb dX10_verdict_82 (by decide) (fun c_82 => ?_) (fun c_82 => ?_)
            · replace hf := it_t c_82 hf
              refine lv_iconst (pc := 89) (v := 1) hx hb dX10_verdict_89 (by decide) ?_
              obtain ⟨r_90, v_refusal_90, hc_90, hf⟩ := bd2 hf
              refine r_dalVi (pc := 90) (ws' := (wX10_verdict E h h_reader h_inn h_chosen h_night h_marks h_notes h_casts h_inn_house h_inn_thingIn h_inn_full h_inn_states h_inn_bed h_inn_dreamOf h_inn_listensIn h_casts_trial h_casts_dreams h_casts_plain h_casts_set h_casts_tried h_casts_kin h_casts_fitters h_notes_book h_notes_sort h_notes_one h_notes_other h_casts_plain_rows v_marked v_refusal_90 v_latestFault v_faultPlace v_inn_minutes v_inn_things v_inn_dreams v_inn_sleepers v_inn_listeners v_casts_count v_casts_fitting_64 v_notes_count v_notes_book v_notes_sort v_notes_one v_casts_plain_rows v_notes_other v_casts_fitters_64)) (As := [.int 1]) (rest := []) C (ctX10_answer l E h h_reader h_inn h_chosen h_night h_marks h_notes h_casts v_marked v_refusal v_latestFault v_faultPlace N 1 (r_90, v_refusal_90) hc_90) ml_X10_95 ⟨Nat.le_of_ble_eq_true rfl, Nat.le_of_ble_eq_true rfl⟩ hP hD hS 0 rfl rfl rfl [0] [11, 1, 2, 3, 4, 5, 6, 7, 8, 9, 10] 11 rfl rfl rfl rfl rfl rfl rfl hl.1 rfl (Nat.le_of_ble_eq_true rfl) ⟨Nat.zero_le _, Nat.zero_le _⟩ dX10_verdict_90 ?_
              clear hP hD hS; intro H locs hP hD hS
              cases hf
              rw [hQ]
              exact r_iret C hr hP hD hS rfl dX10_verdict_93
            · replace hf := it_f c_82 hf
              refine lv_iconst (pc := 85) (v := 3) hx hb dX10_verdict_85 (by decide) ?_
              refine lv_goto (pc := 86) (tgt := 90) hx hb dX10_verdict_86 (by decide) ?_
              obtain ⟨r_90, v_refusal_90, hc_90, hf⟩ := bd2 hf
              refine r_dalVi (pc := 90) (ws' := (wX10_verdict E h h_reader h_inn h_chosen h_night h_marks h_notes h_casts h_inn_house h_inn_thingIn h_inn_full h_inn_states h_inn_bed h_inn_dreamOf h_inn_listensIn h_casts_trial h_casts_dreams h_casts_plain h_casts_set h_casts_tried h_casts_kin h_casts_fitters h_notes_book h_notes_sort h_notes_one h_notes_other h_casts_plain_rows v_marked v_refusal_90 v_latestFault v_faultPlace v_inn_minutes v_inn_things v_inn_dreams v_inn_sleepers v_inn_listeners v_casts_count v_casts_fitting_64 v_notes_count v_notes_book v_notes_sort v_notes_one v_casts_plain_rows v_notes_other v_casts_fitters_64)) (As := [.int 3]) (rest := []) C (ctX10_answer l E h h_reader h_inn h_chosen h_night h_marks h_notes h_casts v_marked v_refusal v_latestFault v_faultPlace N 3 (r_90, v_refusal_90) hc_90) ml_X10_95 ⟨Nat.le_of_ble_eq_true rfl, Nat.le_of_ble_eq_true rfl⟩ hP hD hS 0 rfl rfl rfl [0] [11, 1, 2, 3, 4, 5, 6, 7, 8, 9, 10] 11 rfl rfl rfl rfl rfl rfl rfl hl.1 rfl (Nat.le_of_ble_eq_true rfl) ⟨Nat.zero_le _, Nat.zero_le _⟩ dX10_verdict_90 ?_
              clear hP hD hS; intro H locs hP hD hS
              cases hf
              rw [hQ]
              exact r_iret C hr hP hD hS rfl dX10_verdict_93
        clear ej75
        refine lv_if_le (pc := 67) (tgt := 74) hx hb dX10_verdict_67 (by decide) (fun c_67 => ?_) (fun c_67 => ?_)
        · replace hf := it_t c_67 hf
          refine lv_iconst (pc := 74) (v := 0) hx hb dX10_verdict_74 (by decide) ?_
          exact hj75 0 hf _ _ _ (lv_sub hl [1, 0] rfl) hP hD hS
        · replace hf := it_f c_67 hf
          refine lv_iconst (pc := 70) (v := 1) hx hb dX10_verdict_70 (by decide) ?_
          refine lv_goto (pc := 71) (tgt := 75) hx hb dX10_verdict_71 (by decide) ?_
          exact hj75 1 hf _ _ _ (lv_sub hl [1, 0] rfl) hP hD hS
      clear ej54
      refine lv_if_le (pc := 46) (tgt := 53) hx hb dX10_verdict_46 (by decide) (fun c_46 => ?_) (fun c_46 => ?_)
      · replace hf := it_t c_46 hf
        refine lv_iconst (pc := 53) (v := 0) hx hb dX10_verdict_53 (by decide) ?_
        exact hj54 0 hf _ _ _ (lv_sub hl [0] rfl) hP hD hS
      · replace hf := it_f c_46 hf
        refine lv_iconst (pc := 49) (v := 1) hx hb dX10_verdict_49 (by decide) ?_
        refine lv_goto (pc := 50) (tgt := 54) hx hb dX10_verdict_50 (by decide) ?_
        exact hj54 1 hf _ _ _ (lv_sub hl [0] rfl) hP hD hS
    · replace hf := it_f c_25 hf
      refine lv_aload_n (pc := 28) hx hb dX10_verdict_28 rfl (lv_at hl 0 rfl) ?_
      refine lv_iconst (pc := 29) (v := 0) hx hb dX10_verdict_29 (by decide) ?_
      obtain ⟨r_30, v_refusal_30, hc_30, hf⟩ := bd2 hf
      refine r_dalVi (pc := 30) (ws' := (wX10_verdict E h h_reader h_inn h_chosen h_night h_marks h_notes h_casts h_inn_house h_inn_thingIn h_inn_full h_inn_states h_inn_bed h_inn_dreamOf h_inn_listensIn h_casts_trial h_casts_dreams h_casts_plain h_casts_set h_casts_tried h_casts_kin h_casts_fitters h_notes_book h_notes_sort h_notes_one h_notes_other h_casts_plain_rows v_marked v_refusal_30 v_latestFault v_faultPlace v_inn_minutes v_inn_things v_inn_dreams v_inn_sleepers v_inn_listeners v_casts_count v_casts_fitting_22 v_notes_count v_notes_book v_notes_sort v_notes_one v_casts_plain_rows v_notes_other v_casts_fitters_22)) (As := [.int 0]) (rest := []) C (ctX10_answer l E h h_reader h_inn h_chosen h_night h_marks h_notes h_casts v_marked v_refusal v_latestFault v_faultPlace N 0 (r_30, v_refusal_30) hc_30) ml_X10_95 ⟨Nat.le_of_ble_eq_true rfl, Nat.le_of_ble_eq_true rfl⟩ hP hD hS 0 rfl rfl rfl [0] [11, 1, 2, 3, 4, 5, 6, 7, 8, 9, 10] 11 rfl rfl rfl rfl rfl rfl rfl hl.1 rfl (Nat.le_of_ble_eq_true rfl) ⟨Nat.zero_le _, Nat.zero_le _⟩ dX10_verdict_30 ?_
      clear hP hD hS; intro H locs hP hD hS
      cases hf
      rw [hQ]
      exact r_iret C hr hP hD hS rfl dX10_verdict_33
  · replace hf := it_t c_4 hf
    refine lv_aload_n (pc := 7) hx hb dX10_verdict_7 rfl (lv_at hl 0 rfl) ?_
    refine lv_iconst (pc := 8) (v := 1) hx hb dX10_verdict_8 (by decide) ?_
    obtain ⟨r_9, v_refusal_9, hc_9, hf⟩ := bd2 hf
    refine r_dalVi (pc := 9) (ws' := (wX10_verdict E h h_reader h_inn h_chosen h_night h_marks h_notes h_casts h_inn_house h_inn_thingIn h_inn_full h_inn_states h_inn_bed h_inn_dreamOf h_inn_listensIn h_casts_trial h_casts_dreams h_casts_plain h_casts_set h_casts_tried h_casts_kin h_casts_fitters h_notes_book h_notes_sort h_notes_one h_notes_other h_casts_plain_rows v_marked v_refusal_9 v_latestFault v_faultPlace v_inn_minutes v_inn_things v_inn_dreams v_inn_sleepers v_inn_listeners v_casts_count v_casts_fitting v_notes_count v_notes_book v_notes_sort v_notes_one v_casts_plain_rows v_notes_other v_casts_fitters)) (As := [.int 1]) (rest := []) C (ctX10_refuse l E h h_reader h_inn h_chosen h_night h_marks h_notes h_casts v_marked v_refusal v_latestFault v_faultPlace N 1 (r_9, v_refusal_9) hc_9) ml_X10_68 ⟨Nat.le_of_ble_eq_true rfl, Nat.le_of_ble_eq_true rfl⟩ hP hD hS 0 rfl rfl rfl [0] [11, 1, 2, 3, 4, 5, 6, 7, 8, 9, 10] 11 rfl rfl rfl rfl rfl rfl rfl hl.1 rfl (Nat.le_of_ble_eq_true rfl) ⟨Nat.zero_le _, Nat.zero_le _⟩ dX10_verdict_9 ?_
    clear hP hD hS; intro H locs hP hD hS
    cases hf
    rw [hQ]
    exact r_iret C hr hP hD hS rfl dX10_verdict_12
def wX0_areSame (E : EN) (h h_trial h_inn h_dreams h_plain h_set h_tried h_kin h_fitters : Nat) (v_count : Int32) (v_fitting : Int32) (v_fitters : Nat → Int32) (v_kin : Nat → Int32) : va_W := [(h, .inr (0, [.ref h_trial, .ref h_inn, .int v_count, .ref h_dreams, .ref h_plain, .ref h_set, .ref h_tried, .ref h_kin, .int v_fitting, .ref h_fitters])), (h_fitters, aI E 64 v_fitters), (h_kin, aI E 1344 v_kin)]
def fX0_areSame (N : Nat) (p0 : Int32) (p1 : Int32) (p2 : Int32) (v_fitters : Nat → Int32) (v_kin : Nat → Int32) : Option Int32 := gd p0 64 (gd ((p2 * 64) + (v_fitters p0.toNatClampNeg)) 1344 (gd p1 64 (gd ((p2 * 64) + (v_fitters p1.toNatClampNeg)) 1344 (if (v_kin ((p2 * 64) + (v_fitters p0.toNatClampNeg)).toNatClampNeg) = (v_kin ((p2 * 64) + (v_fitters p1.toNatClampNeg)).toNatClampNeg) then (some 1) else (some 0)))))
set_option maxHeartbeats 4000000 in
set_option maxRecDepth 100000 in
theorem ctX0_areSame (l : Launch) (E : EN) (h h_trial h_inn h_dreams h_plain h_set h_tried h_kin h_fitters : Nat) (v_count : Int32) (v_fitting : Int32) (v_fitters : Nat → Int32) (v_kin : Nat → Int32) (N : Nat) (p0 : Int32) (p1 : Int32) (p2 : Int32) (z : Int32) (hf : fX0_areSame N p0 p1 p2 v_fitters v_kin = some z) : CTi l E yX0_areSame cX0_areSame 5 .boolean 0 0 [.ref h, .int p0, .int p1, .int p2] (wX0_areSame E h h_trial h_inn h_dreams h_plain h_set h_tried h_kin h_fitters v_count v_fitting v_fitters v_kin) (z) (wX0_areSame E h h_trial h_inn h_dreams h_plain h_set h_tried h_kin h_fitters v_count v_fitting v_fitters v_kin) := by
  intro sz
  refine ct_body (by decide) (Nat.le_of_ble_eq_true rfl) ?_
  intro p e s m args below meth c A ls hAe C hr hin hP hD hS hl
  have C : CX p s m args meth c cX0_areSame RX0 5 E A := C
  have hl : lv_has ls 5 [(0, .ref h), (1, .int p0), (2, .int p1), (3, .int p2)] := hl
  have hx := C.1
  have hb := C.2.1
  rw [hAe]
  clear hAe
  obtain ⟨Q, hQ⟩ : ∃ Q, Q = MQ below (Qi E A (z) (wX0_areSame E h h_trial h_inn h_dreams h_plain h_set h_tried h_kin h_fitters v_count v_fitting v_fitters v_kin)) args s 0 0 A := ⟨_, rfl⟩
  rw [← hQ]
  unfold fX0_areSame at hf
  refine lv_iload_n (pc := 0) hx hb dX0_areSame_0 rfl (lv_at hl 3 rfl) ?_
  refine lv_bipush (pc := 1) (v := 64) hx hb dX0_areSame_1 (by decide) ?_
  refine lv_imul (pc := 3) hx hb dX0_areSame_3 ?_
  refine lv_istore (pc := 4) (lv' := [(4, .int (p2 * 64)), (0, .ref h), (1, .int p0), (2, .int p1), (3, .int p2)]) hx hb dX0_areSame_4 hl (by decide) rfl (fun ls hl => ?_)
  refine lv_aload_n (pc := 6) hx hb dX0_areSame_6 rfl (lv_at hl 1 rfl) ?_
  refine r_get (pc := 7) C hP 0 rfl fl_X0_29 rfl dX0_areSame_7 ?_
  refine lv_iload (pc := 10) hx hb dX0_areSame_10 (lv_at hl 0 rfl) ?_
  refine lv_aload_n (pc := 12) hx hb dX0_areSame_12 rfl (lv_at hl 1 rfl) ?_
  refine r_get (pc := 13) C hP 0 rfl fl_X0_32 rfl dX0_areSame_13 ?_
  refine lv_iload_n (pc := 16) hx hb dX0_areSame_16 rfl (lv_at hl 2 rfl) ?_
  obtain ⟨hi_17, hf⟩ := gd_s hf
  refine r_iald (pc := 17) C hP 1 rfl hi_17 dX0_areSame_17 ?_
  refine lv_iadd (pc := 18) hx hb dX0_areSame_18 ?_
  obtain ⟨hi_19, hf⟩ := gd_s hf
  refine r_iald (pc := 19) C hP 2 rfl hi_19 dX0_areSame_19 ?_
  refine lv_aload_n (pc := 20) hx hb dX0_areSame_20 rfl (lv_at hl 1 rfl) ?_
  refine r_get (pc := 21) C hP 0 rfl fl_X0_29 rfl dX0_areSame_21 ?_
  refine lv_iload (pc := 24) hx hb dX0_areSame_24 (lv_at hl 0 rfl) ?_
  refine lv_aload_n (pc := 26) hx hb dX0_areSame_26 rfl (lv_at hl 1 rfl) ?_
  refine r_get (pc := 27) C hP 0 rfl fl_X0_32 rfl dX0_areSame_27 ?_
  refine lv_iload_n (pc := 30) hx hb dX0_areSame_30 rfl (lv_at hl 3 rfl) ?_
  obtain ⟨hi_31, hf⟩ := gd_s hf
  refine r_iald (pc := 31) C hP 1 rfl hi_31 dX0_areSame_31 ?_
  refine lv_iadd (pc := 32) hx hb dX0_areSame_32 ?_
  obtain ⟨hi_33, hf⟩ := gd_s hf
  refine r_iald (pc := 33) C hP 2 rfl hi_33 dX0_areSame_33 ?_
  refine lv_icmp_ne (pc := 34) (tgt := 41) hx hb dX0_areSame_34 (by decide) (fun c_34 => ?_) (fun c_34 => ?_)
  · replace hf := it_f c_34 hf
    refine lv_iconst (pc := 41) (v := 0) hx hb dX0_areSame_41 (by decide) ?_
    cases hf
    rw [hQ]
    exact r_zret C hr hP hD hS (Or.inl rfl) rfl dX0_areSame_42
  · replace hf := it_t c_34 hf
    refine lv_iconst (pc := 37) (v := 1) hx hb dX0_areSame_37 (by decide) ?_
    refine lv_goto (pc := 38) (tgt := 42) hx hb dX0_areSame_38 (by decide) ?_
    cases hf
    rw [hQ]
    exact r_zret C hr hP hD hS (Or.inr rfl) rfl dX0_areSame_42
def wX0_mostAlike (E : EN) (h h_trial h_inn h_dreams h_plain h_set h_tried h_kin h_fitters : Nat) (v_count : Int32) (v_fitting : Int32) (v_fitters : Nat → Int32) (v_kin : Nat → Int32) : va_W := [(h, .inr (0, [.ref h_trial, .ref h_inn, .int v_count, .ref h_dreams, .ref h_plain, .ref h_set, .ref h_tried, .ref h_kin, .int v_fitting, .ref h_fitters])), (h_fitters, aI E 64 v_fitters), (h_kin, aI E 1344 v_kin)]
def BX0_mostAlike_20 (v_fitting : Int32) (N : Nat) (x5_4 : Int32) (p0 : Int32) (v_fitters : Nat → Int32) (v_kin : Nat → Int32) (p1 : Int32) (K62 : (Int32) → Option Int32) (rec20 : (Int32 × Int32) → Option Int32) : (Int32 × Int32) → Option Int32 := un2 fun (x20_5 : Int32) (x20_6 : Int32) => if v_fitting ≤ x20_6 then (K62 x20_5) else ((fX0_areSame N x5_4 x20_6 p0 v_fitters v_kin).bind (un1 fun (r_35 : Int32) => jn (un1 fun (x56_5 : Int32) => rec20 (x56_5, x20_6 + 1)) (fun j56 => if r_35 = 0 then (j56 x20_5) else ((fX0_areSame N x5_4 x20_6 p1 v_fitters v_kin).bind (un1 fun (r_47 : Int32) => if r_47 = 0 then (j56 x20_5) else (j56 (x20_5 + 1)))))))
def BX0_mostAlike_5 (v_fitting : Int32) (N : Nat) (p0 : Int32) (v_fitters : Nat → Int32) (v_kin : Nat → Int32) (p1 : Int32) (rec5 : (Int32 × Int32) → Option Int32) : (Int32 × Int32) → Option Int32 := un2 fun (x5_3 : Int32) (x5_4 : Int32) => if v_fitting ≤ x5_4 then (some x5_3) else (lp (BX0_mostAlike_20 v_fitting N x5_4 p0 v_fitters v_kin p1 (un1 fun (x62_5 : Int32) => rec5 (if x5_3 < x62_5 then x62_5 else x5_3, x5_4 + 1))) N (0, 0))
def fX0_mostAlike (N : Nat) (p0 : Int32) (p1 : Int32) (v_fitting : Int32) (v_fitters : Nat → Int32) (v_kin : Nat → Int32) : Option Int32 := lp (BX0_mostAlike_5 v_fitting N p0 v_fitters v_kin p1) N (0, 0)
set_option maxHeartbeats 4000000 in
set_option maxRecDepth 100000 in
theorem ctX0_mostAlike (l : Launch) (E : EN) (h h_trial h_inn h_dreams h_plain h_set h_tried h_kin h_fitters : Nat) (v_count : Int32) (v_fitting : Int32) (v_fitters : Nat → Int32) (v_kin : Nat → Int32) (N : Nat) (p0 : Int32) (p1 : Int32) (z : Int32) (hf : fX0_mostAlike N p0 p1 v_fitting v_fitters v_kin = some z) : CTi l E yX0_mostAlike cX0_mostAlike 7 .int 1 24 [.ref h, .int p0, .int p1] (wX0_mostAlike E h h_trial h_inn h_dreams h_plain h_set h_tried h_kin h_fitters v_count v_fitting v_fitters v_kin) (z) (wX0_mostAlike E h h_trial h_inn h_dreams h_plain h_set h_tried h_kin h_fitters v_count v_fitting v_fitters v_kin) := by
  intro sz
  refine ct_body (by decide) (Nat.le_of_ble_eq_true rfl) ?_
  intro p e s m args below meth c A ls hAe C hr hin hP hD hS hl
  have C : CX p s m args meth c cX0_mostAlike RX0 7 E A := C
  have hl : lv_has ls 7 [(0, .ref h), (1, .int p0), (2, .int p1)] := hl
  have hx := C.1
  have hb := C.2.1
  rw [hAe]
  clear hAe
  obtain ⟨Q, hQ⟩ : ∃ Q, Q = MQ below (Qi E A (z) (wX0_mostAlike E h h_trial h_inn h_dreams h_plain h_set h_tried h_kin h_fitters v_count v_fitting v_fitters v_kin)) args s 0 0 A := ⟨_, rfl⟩
  rw [← hQ]
  unfold fX0_mostAlike at hf
  refine lv_iconst (pc := 0) (v := 0) hx hb dX0_mostAlike_0 (by decide) ?_
  refine lv_istore_n (pc := 1) (lv' := [(3, .int 0), (0, .ref h), (1, .int p0), (2, .int p1)]) hx hb dX0_mostAlike_1 rfl hl (by decide) rfl (fun ls hl => ?_)
  refine lv_iconst (pc := 2) (v := 0) hx hb dX0_mostAlike_2 (by decide) ?_
  refine lv_istore (pc := 3) (lv' := [(4, .int 0), (3, .int 0), (0, .ref h), (1, .int p0), (2, .int p1)]) hx hb dX0_mostAlike_3 hl (by decide) rfl (fun ls hl => ?_)
  have key5 : ∀ (n : Nat) (x5_3 : Int32) (x5_4 : Int32) , lp (BX0_mostAlike_5 v_fitting N p0 v_fitters v_kin p1) n (x5_3, x5_4) = some z → AT p l e (rmOf 1 24) s m args below meth c E A Q 0 0 7 [(0, .ref h), (1, .int p0), (2, .int p1), (3, .int x5_3), (4, .int x5_4)] (wX0_mostAlike E h h_trial h_inn h_dreams h_plain h_set h_tried h_kin h_fitters v_count v_fitting v_fitters v_kin) 5 [] := by
    intro n
    induction n with
    | zero => intro x5_3 x5_4 hf; exact (lp_0 hf).elim
    | succ n ih5 =>
      intro x5_3 x5_4 hf H locs ls hl hP hD hS
      replace hf := lp_s hf
      generalize lp (BX0_mostAlike_5 v_fitting N p0 v_fitters v_kin p1) n = rec5 at ih5 hf
      unfold BX0_mostAlike_5 at hf
      replace hf := un2_s hf
      refine lv_iload (pc := 5) hx hb dX0_mostAlike_5 (lv_at hl 4 rfl) ?_
      refine lv_aload_n (pc := 7) hx hb dX0_mostAlike_7 rfl (lv_at hl 0 rfl) ?_
      refine r_get (pc := 8) C hP 0 rfl fl_X0_91 rfl dX0_mostAlike_8 ?_
      refine lv_icmp_ge (pc := 11) (tgt := 75) hx hb dX0_mostAlike_11 (by decide) (fun c_11 => ?_) (fun c_11 => ?_)
      · replace hf := it_t c_11 hf
        refine lv_iload_n (pc := 75) hx hb dX0_mostAlike_75 rfl (lv_at hl 3 rfl) ?_
        cases hf
        rw [hQ]
        exact r_iret C hr hP hD hS rfl dX0_mostAlike_76
      · replace hf := it_f c_11 hf
        refine lv_iconst (pc := 14) (v := 0) hx hb dX0_mostAlike_14 (by decide) ?_
        refine lv_istore (pc := 15) (lv' := [(5, .int 0), (0, .ref h), (1, .int p0), (2, .int p1), (3, .int x5_3), (4, .int x5_4)]) hx hb dX0_mostAlike_15 hl (by decide) rfl (fun ls hl => ?_)
        refine lv_iconst (pc := 17) (v := 0) hx hb dX0_mostAlike_17 (by decide) ?_
        refine lv_istore (pc := 18) (lv' := [(6, .int 0), (5, .int 0), (0, .ref h), (1, .int p0), (2, .int p1), (3, .int x5_3), (4, .int x5_4)]) hx hb dX0_mostAlike_18 hl (by decide) rfl (fun ls hl => ?_)
        refine lpK hf (fun K62 eK62 hf => ?_)
        have hK62 : ∀ (x62_5 : Int32) , K62 x62_5 = some z → AT p l e (rmOf 1 24) s m args below meth c E A Q 0 0 7 [(0, .ref h), (1, .int p0), (2, .int p1), (3, .int x5_3), (4, .int x5_4), (5, .int x62_5)] (wX0_mostAlike E h h_trial h_inn h_dreams h_plain h_set h_tried h_kin h_fitters v_count v_fitting v_fitters v_kin) 62 [] := by
          intro x62_5 hf H locs ls hl hP hD hS
          rw [eK62] at hf
          replace hf := un1_s hf
          refine lv_iload_n (pc := 62) hx hb dX0_mostAlike_62 rfl (lv_at hl 3 rfl) ?_
          refine lv_iload (pc := 63) hx hb dX0_mostAlike_63 (lv_at hl 5 rfl) ?_
          refine va_mmax (pc := 65) hx hb (by rw [C.2.2.1, hl.1]) C.2.2.2.1 (C.2.2.2.2.1 _ mm_X0_108.1) (C.2.2.2.2.1 _ mm_X0_108.2.1) (C.2.2.2.2.1 _ mm_X0_108.2.2.1) (C.2.2.2.2.1 _ mm_X0_108.2.2.2) (Nat.le_of_ble_eq_true rfl) (Nat.le_of_ble_eq_true rfl) (Nat.zero_le _) (Nat.zero_le _) dX0_mostAlike_65 ?_
          refine lv_istore_n (pc := 68) (lv' := [(3, .int (if x5_3 < x62_5 then x62_5 else x5_3)), (0, .ref h), (1, .int p0), (2, .int p1), (4, .int x5_4), (5, .int x62_5)]) hx hb dX0_mostAlike_68 rfl hl (by decide) rfl (fun ls hl => ?_)
          refine lv_iinc (pc := 69) (v := x5_4 + 1) (lv' := [(4, .int (x5_4 + 1)), (3, .int (if x5_3 < x62_5 then x62_5 else x5_3)), (0, .ref h), (1, .int p0), (2, .int p1), (5, .int x62_5)]) hx hb dX0_mostAlike_69 hl (k := 4) rfl rfl (by decide) rfl (fun ls hl => ?_)
          refine lv_goto (pc := 72) (tgt := 5) hx hb dX0_mostAlike_72 (by decide) ?_
          exact ih5 (if x5_3 < x62_5 then x62_5 else x5_3) (x5_4 + 1) hf _ _ _ (lv_sub hl [2, 3, 4, 1, 0] rfl) hP hD hS
        clear eK62
        have key20 : ∀ (n : Nat) (x20_5 : Int32) (x20_6 : Int32) , lp (BX0_mostAlike_20 v_fitting N x5_4 p0 v_fitters v_kin p1 K62) n (x20_5, x20_6) = some z → AT p l e (rmOf 1 24) s m args below meth c E A Q 0 0 7 [(0, .ref h), (1, .int p0), (2, .int p1), (3, .int x5_3), (4, .int x5_4), (5, .int x20_5), (6, .int x20_6)] (wX0_mostAlike E h h_trial h_inn h_dreams h_plain h_set h_tried h_kin h_fitters v_count v_fitting v_fitters v_kin) 20 [] := by
          intro n
          induction n with
          | zero => intro x20_5 x20_6 hf; exact (lp_0 hf).elim
          | succ n ih20 =>
            intro x20_5 x20_6 hf H locs ls hl hP hD hS
            replace hf := lp_s hf
            generalize lp (BX0_mostAlike_20 v_fitting N x5_4 p0 v_fitters v_kin p1 K62) n = rec20 at ih20 hf
            unfold BX0_mostAlike_20 at hf
            replace hf := un2_s hf
            refine lv_iload (pc := 20) hx hb dX0_mostAlike_20 (lv_at hl 6 rfl) ?_
            refine lv_aload_n (pc := 22) hx hb dX0_mostAlike_22 rfl (lv_at hl 0 rfl) ?_
            refine r_get (pc := 23) C hP 0 rfl fl_X0_91 rfl dX0_mostAlike_23 ?_
            refine lv_icmp_ge (pc := 26) (tgt := 62) hx hb dX0_mostAlike_26 (by decide) (fun c_26 => ?_) (fun c_26 => ?_)
            · replace hf := it_t c_26 hf
              exact hK62 x20_5 hf _ _ _ (lv_sub hl [0, 1, 2, 3, 4, 5] rfl) hP hD hS
            · replace hf := it_f c_26 hf
              refine lv_aload_n (pc := 29) hx hb dX0_mostAlike_29 rfl (lv_at hl 0 rfl) ?_
              refine lv_iload (pc := 30) hx hb dX0_mostAlike_30 (lv_at hl 4 rfl) ?_
              refine lv_iload (pc := 32) hx hb dX0_mostAlike_32 (lv_at hl 6 rfl) ?_
              refine lv_iload_n (pc := 34) hx hb dX0_mostAlike_34 rfl (lv_at hl 1 rfl) ?_
              obtain ⟨r_35, hc_35, hf⟩ := bd1 hf
              refine r_dalVi (pc := 35) (ws' := (wX0_mostAlike E h h_trial h_inn h_dreams h_plain h_set h_tried h_kin h_fitters v_count v_fitting v_fitters v_kin)) (As := [.int x5_4, .int x20_6, .int p0]) (rest := []) C (ctX0_areSame l E h h_trial h_inn h_dreams h_plain h_set h_tried h_kin h_fitters v_count v_fitting v_fitters v_kin N x5_4 x20_6 p0 r_35 hc_35) ml_X0_104 ⟨Nat.le_of_ble_eq_true rfl, Nat.le_of_ble_eq_true rfl⟩ hP hD hS 0 rfl rfl rfl [0, 1, 2] [3, 4, 5] 3 rfl rfl rfl rfl rfl rfl rfl hl.1 rfl (Nat.le_of_ble_eq_true rfl) ⟨Nat.zero_le _, Nat.zero_le _⟩ dX0_mostAlike_35 ?_
              clear hP hD hS; intro H locs hP hD hS
              refine jnK hf (fun j56 ej56 hf => ?_)
              have hj56 : ∀ (x56_5 : Int32) , j56 x56_5 = some z → AT p l e (rmOf 1 24) s m args below meth c E A Q 0 0 7 [(0, .ref h), (1, .int p0), (2, .int p1), (3, .int x5_3), (4, .int x5_4), (5, .int x56_5), (6, .int x20_6)] (wX0_mostAlike E h h_trial h_inn h_dreams h_plain h_set h_tried h_kin h_fitters v_count v_fitting v_fitters v_kin) 56 [] := by
                intro x56_5 hf H locs ls hl hP hD hS
                rw [ej56] at hf
                replace hf := un1_s hf
                refine lv_iinc (pc := 56) (v := x20_6 + 1) (lv' := [(6, .int (x20_6 + 1)), (0, .ref h), (1, .int p0), (2, .int p1), (3, .int x5_3), (4, .int x5_4), (5, .int x56_5)]) hx hb dX0_mostAlike_56 hl (k := 6) rfl rfl (by decide) rfl (fun ls hl => ?_)
                refine lv_goto (pc := 59) (tgt := 20) hx hb dX0_mostAlike_59 (by decide) ?_
                exact ih20 x56_5 (x20_6 + 1) hf _ _ _ (lv_sub hl [1, 2, 3, 4, 5, 6, 0] rfl) hP hD hS
              clear ej56
              refine lv_if_eq (pc := 38) (tgt := 56) hx hb dX0_mostAlike_38 (by decide) (fun c_38 => ?_) (fun c_38 => ?_)
              · replace hf := it_t c_38 hf
                exact hj56 x20_5 hf _ _ _ (lv_sub hl [0, 1, 2, 3, 4, 5, 6] rfl) hP hD hS
              · replace hf := it_f c_38 hf
                refine lv_aload_n (pc := 41) hx hb dX0_mostAlike_41 rfl (lv_at hl 0 rfl) ?_
                refine lv_iload (pc := 42) hx hb dX0_mostAlike_42 (lv_at hl 4 rfl) ?_
                refine lv_iload (pc := 44) hx hb dX0_mostAlike_44 (lv_at hl 6 rfl) ?_
                refine lv_iload_n (pc := 46) hx hb dX0_mostAlike_46 rfl (lv_at hl 2 rfl) ?_
                obtain ⟨r_47, hc_47, hf⟩ := bd1 hf
                refine r_dalVi (pc := 47) (ws' := (wX0_mostAlike E h h_trial h_inn h_dreams h_plain h_set h_tried h_kin h_fitters v_count v_fitting v_fitters v_kin)) (As := [.int x5_4, .int x20_6, .int p1]) (rest := []) C (ctX0_areSame l E h h_trial h_inn h_dreams h_plain h_set h_tried h_kin h_fitters v_count v_fitting v_fitters v_kin N x5_4 x20_6 p1 r_47 hc_47) ml_X0_104 ⟨Nat.le_of_ble_eq_true rfl, Nat.le_of_ble_eq_true rfl⟩ hP hD hS 0 rfl rfl rfl [0, 1, 2] [3, 4, 5] 3 rfl rfl rfl rfl rfl rfl rfl hl.1 rfl (Nat.le_of_ble_eq_true rfl) ⟨Nat.zero_le _, Nat.zero_le _⟩ dX0_mostAlike_47 ?_
                clear hP hD hS; intro H locs hP hD hS
                refine lv_if_eq (pc := 50) (tgt := 56) hx hb dX0_mostAlike_50 (by decide) (fun c_50 => ?_) (fun c_50 => ?_)
                · replace hf := it_t c_50 hf
                  exact hj56 x20_5 hf _ _ _ (lv_sub hl [0, 1, 2, 3, 4, 5, 6] rfl) hP hD hS
                · replace hf := it_f c_50 hf
                  refine lv_iinc (pc := 53) (v := x20_5 + 1) (lv' := [(5, .int (x20_5 + 1)), (0, .ref h), (1, .int p0), (2, .int p1), (3, .int x5_3), (4, .int x5_4), (6, .int x20_6)]) hx hb dX0_mostAlike_53 hl (k := 5) rfl rfl (by decide) rfl (fun ls hl => ?_)
                  exact hj56 (x20_5 + 1) hf _ _ _ (lv_sub hl [1, 2, 3, 4, 5, 0, 6] rfl) hP hD hS
        exact key20 _ 0 0 hf _ _ _ (lv_sub hl [2, 3, 4, 5, 6, 1, 0] rfl) hP hD hS
  exact key5 _ 0 0 hf _ _ _ (lv_sub hl [2, 3, 4, 1, 0] rfl) hP hD hS
def wX10_parts (E : EN) (h h_reader h_inn h_chosen h_night h_marks h_notes h_casts h_inn_house h_inn_thingIn h_inn_full h_inn_states h_inn_bed h_inn_dreamOf h_inn_listensIn h_inn_house_creak h_inn_house_cold h_inn_house_one h_inn_house_other h_inn_house_how h_inn_house_falls h_inn_house_ways h_casts_trial h_casts_dreams h_casts_plain h_casts_set h_casts_tried h_casts_kin h_casts_fitters h_notes_book h_notes_sort h_notes_one h_notes_other h_casts_plain_rows h_casts_trial_ways h_casts_trial_how h_casts_trial_passed h_casts_trial_dreamOf h_casts_trial_stateOf h_casts_trial_roomOf h_casts_trial_handOf h_casts_trial_awake h_casts_trial_thingIn h_casts_trial_full h_casts_trial_heardBy h_casts_trial_ways_steps h_inn_house_ways_steps h_casts_set_rows : Nat) (v_marked : Int32) (v_refusal : Int32) (v_latestFault : Int32) (v_faultPlace : Int32) (v_inn_minutes : Int32) (v_inn_things : Int32) (v_inn_dreams : Int32) (v_inn_sleepers : Int32) (v_inn_listeners : Int32) (v_inn_house_rooms : Int32) (v_inn_house_doors : Int32) (v_casts_count : Int32) (v_casts_fitting : Int32) (v_notes_count : Int32) (v_notes_book : Nat → Int32) (v_notes_sort : Nat → Int32) (v_notes_one : Nat → Int32) (v_casts_plain_rows : Nat → Int64) (v_notes_other : Nat → Int32) (v_casts_fitters : Nat → Int32) (v_casts_tried : Nat → Int32) (v_casts_trial_setting : Int32) (v_casts_trial_been : Int32) (v_inn_house_how : Nat → Int32) (v_casts_trial_ways_rooms : Int32) (v_casts_trial_ways_steps : Nat → Int32) (v_inn_house_one : Nat → Int32) (v_inn_house_other : Nat → Int32) (v_inn_thingIn : Nat → Int32) (v_casts_trial_thingIn : Nat → Int32) (v_inn_full : Nat → Int32) (v_casts_trial_full : Nat → Int32) (v_casts_trial_heardBy : Nat → Int64) (v_casts_dreams : Nat → Int32) (v_casts_trial_dreamOf : Nat → Int32) (v_casts_trial_stateOf : Nat → Int32) (v_inn_bed : Nat → Int32) (v_casts_trial_roomOf : Nat → Int32) (v_casts_trial_handOf : Nat → Int32) (v_casts_trial_awake : Nat → Int32) (v_casts_trial_how : Nat → Int32) (v_casts_trial_passed : Nat → Int32) (v_inn_states : Nat → Int32) (v_inn_house_creak : Nat → Int32) (v_inn_listensIn : Nat → Int32) (v_inn_house_ways_rooms : Int32) (v_inn_house_ways_steps : Nat → Int32) (v_inn_house_cold : Nat → Int32) (v_inn_house_falls : Nat → Int32) (v_casts_set_rows : Nat → Int64) (v_casts_kin : Nat → Int32) : va_W := [(h, .inr (9, [.ref h_reader, .ref h_inn, .ref h_chosen, .ref h_night, .ref h_marks, .int v_marked, .ref h_notes, .ref h_casts, .int v_refusal, .int v_latestFault, .int v_faultPlace])), (h_inn, .inr (2, [.ref h_inn_house, .int v_inn_minutes, .int v_inn_things, .ref h_inn_thingIn, .ref h_inn_full, .int v_inn_dreams, .ref h_inn_states, .int v_inn_sleepers, .ref h_inn_bed, .ref h_inn_dreamOf, .int v_inn_listeners, .ref h_inn_listensIn])), (h_inn_house, .inr (1, [.int v_inn_house_rooms, .ref h_inn_house_creak, .ref h_inn_house_cold, .int v_inn_house_doors, .ref h_inn_house_one, .ref h_inn_house_other, .ref h_inn_house_how, .ref h_inn_house_falls, .ref h_inn_house_ways])), (h_casts, .inr (0, [.ref h_casts_trial, .ref h_inn, .int v_casts_count, .ref h_casts_dreams, .ref h_casts_plain, .ref h_casts_set, .ref h_casts_tried, .ref h_casts_kin, .int v_casts_fitting, .ref h_casts_fitters])), (h_notes, .inr (5, [.ref h_notes_book, .ref h_notes_sort, .ref h_notes_one, .ref h_notes_other, .int v_notes_count])), (h_notes_book, aI E 20 v_notes_book), (h_notes_sort, aI E 20 v_notes_sort), (h_notes_one, aI E 20 v_notes_one), (h_casts_plain, .inr (3, [.ref h_casts_plain_rows])), (h_casts_plain_rows, aJ E 256 v_casts_plain_rows), (h_notes_other, aI E 20 v_notes_other), (h_casts_fitters, aI E 64 v_casts_fitters), (h_casts_tried, aZ E 21 v_casts_tried), (h_casts_trial, .inr (4, [.ref h_inn, .int v_casts_trial_setting, .int v_casts_trial_been, .ref h_casts_trial_ways, .ref h_casts_trial_how, .ref h_casts_trial_passed, .ref h_casts_trial_dreamOf, .ref h_casts_trial_stateOf, .ref h_casts_trial_roomOf, .ref h_casts_trial_handOf, .ref h_casts_trial_awake, .ref h_casts_trial_thingIn, .ref h_casts_trial_full, .ref h_casts_trial_heardBy])), (h_inn_house_how, aI E 10 v_inn_house_how), (h_casts_trial_ways, .inr (8, [.ref h_casts_trial_ways_steps, .int v_casts_trial_ways_rooms])), (h_casts_trial_ways_steps, aI E 64 v_casts_trial_ways_steps), (h_inn_house_one, aI E 10 v_inn_house_one), (h_inn_house_other, aI E 10 v_inn_house_other), (h_inn_thingIn, aI E 4 v_inn_thingIn), (h_casts_trial_thingIn, aI E 4 v_casts_trial_thingIn), (h_inn_full, aZ E 4 v_inn_full), (h_casts_trial_full, aZ E 4 v_casts_trial_full), (h_casts_trial_heardBy, aJ E 3 v_casts_trial_heardBy), (h_casts_dreams, aI E 192 v_casts_dreams), (h_casts_trial_dreamOf, aI E 3 v_casts_trial_dreamOf), (h_casts_trial_stateOf, aI E 3 v_casts_trial_stateOf), (h_inn_bed, aI E 3 v_inn_bed), (h_casts_trial_roomOf, aI E 3 v_casts_trial_roomOf), (h_casts_trial_handOf, aI E 3 v_casts_trial_handOf), (h_casts_trial_awake, aZ E 3 v_casts_trial_awake), (h_casts_trial_how, aI E 10 v_casts_trial_how), (h_casts_trial_passed, aI E 10 v_casts_trial_passed), (h_inn_states, aI E 64 v_inn_states), (h_inn_house_creak, aI E 8 v_inn_house_creak), (h_inn_listensIn, aI E 3 v_inn_listensIn), (h_inn_house_ways, .inr (8, [.ref h_inn_house_ways_steps, .int v_inn_house_ways_rooms])), (h_inn_house_ways_steps, aI E 64 v_inn_house_ways_steps), (h_inn_house_cold, aZ E 8 v_inn_house_cold), (h_inn_house_falls, aZ E 10 v_inn_house_falls), (h_casts_set, .inr (3, [.ref h_casts_set_rows])), (h_casts_set_rows, aJ E 256 v_casts_set_rows), (h_casts_kin, aI E 1344 v_casts_kin)]
def fX10_parts (N : Nat) (p0 : Int32) (v_inn_minutes : Int32) (v_inn_things : Int32) (v_inn_sleepers : Int32) (v_inn_listeners : Int32) (v_inn_house_rooms : Int32) (v_inn_house_doors : Int32) (v_casts_count : Int32) (v_casts_fitting : Int32) (v_notes_count : Int32) (v_notes_book : Nat → Int32) (v_notes_sort : Nat → Int32) (v_notes_one : Nat → Int32) (v_casts_plain_rows : Nat → Int64) (v_notes_other : Nat → Int32) (v_casts_fitters : Nat → Int32) (v_casts_tried : Nat → Int32) (v_casts_trial_setting : Int32) (v_casts_trial_been : Int32) (v_inn_house_how : Nat → Int32) (v_casts_trial_ways_rooms : Int32) (v_casts_trial_ways_steps : Nat → Int32) (v_inn_house_one : Nat → Int32) (v_inn_house_other : Nat → Int32) (v_inn_thingIn : Nat → Int32) (v_casts_trial_thingIn : Nat → Int32) (v_inn_full : Nat → Int32) (v_casts_trial_full : Nat → Int32) (v_casts_trial_heardBy : Nat → Int64) (v_casts_dreams : Nat → Int32) (v_casts_trial_dreamOf : Nat → Int32) (v_casts_trial_stateOf : Nat → Int32) (v_inn_bed : Nat → Int32) (v_casts_trial_roomOf : Nat → Int32) (v_casts_trial_handOf : Nat → Int32) (v_casts_trial_awake : Nat → Int32) (v_casts_trial_how : Nat → Int32) (v_casts_trial_passed : Nat → Int32) (v_inn_states : Nat → Int32) (v_inn_house_creak : Nat → Int32) (v_inn_listensIn : Nat → Int32) (v_inn_house_ways_steps : Nat → Int32) (v_inn_house_cold : Nat → Int32) (v_inn_house_falls : Nat → Int32) (v_casts_set_rows : Nat → Int64) (v_casts_kin : Nat → Int32) : Option (Int32 × Int32 × Int32 × (Nat → Int64) × (Nat → Int32) × (Nat → Int32) × Int32 × Int32 × Int32 × (Nat → Int32) × (Nat → Int32) × (Nat → Int32) × (Nat → Int64) × (Nat → Int32) × (Nat → Int32) × (Nat → Int32) × (Nat → Int32) × (Nat → Int32) × (Nat → Int32) × (Nat → Int32) × (Nat → Int64) × (Nat → Int32)) := (fX10_isSetting N p0 v_inn_minutes v_inn_house_doors).bind (un1 fun (r_2 : Int32) => if r_2 = 0 then ((fX10_refuse N 1).bind (un2 fun (r_10 : Int32) (v_refusal_10 : Int32) => some (r_10, v_refusal_10, v_casts_fitting, v_casts_plain_rows, v_casts_fitters, v_casts_tried, v_casts_trial_setting, v_casts_trial_been, v_casts_trial_ways_rooms, v_casts_trial_ways_steps, v_casts_trial_thingIn, v_casts_trial_full, v_casts_trial_heardBy, v_casts_trial_dreamOf, v_casts_trial_stateOf, v_casts_trial_roomOf, v_casts_trial_handOf, v_casts_trial_awake, v_casts_trial_how, v_casts_trial_passed, v_casts_set_rows, v_casts_kin))) else ((fX0_gather N 3 v_casts_count v_notes_count v_notes_book v_notes_sort v_notes_one v_casts_plain_rows v_notes_other v_casts_fitters).bind (un3 fun (r_23 : Int32) (v_casts_fitting_23 : Int32) (v_casts_fitters_23 : Nat → Int32) => if r_23 = 0 then ((fX10_refuse N 6).bind (un2 fun (r_32 : Int32) (v_refusal_32 : Int32) => some (r_32, v_refusal_32, v_casts_fitting_23, v_casts_plain_rows, v_casts_fitters_23, v_casts_tried, v_casts_trial_setting, v_casts_trial_been, v_casts_trial_ways_rooms, v_casts_trial_ways_steps, v_casts_trial_thingIn, v_casts_trial_full, v_casts_trial_heardBy, v_casts_trial_dreamOf, v_casts_trial_stateOf, v_casts_trial_roomOf, v_casts_trial_handOf, v_casts_trial_awake, v_casts_trial_how, v_casts_trial_passed, v_casts_set_rows, v_casts_kin))) else ((fX0_tryOuts N p0 p0 v_casts_count v_casts_tried v_casts_trial_setting v_casts_trial_been v_inn_minutes v_inn_things v_inn_sleepers v_inn_listeners v_inn_house_rooms v_inn_house_doors v_inn_house_how v_casts_trial_ways_rooms v_casts_trial_ways_steps v_inn_house_one v_inn_house_other v_inn_thingIn v_casts_trial_thingIn v_inn_full v_casts_trial_full v_casts_trial_heardBy v_casts_dreams v_casts_trial_dreamOf v_casts_trial_stateOf v_inn_bed v_casts_trial_roomOf v_casts_trial_handOf v_casts_trial_awake v_casts_trial_how v_casts_trial_passed v_inn_states v_inn_house_creak v_inn_listensIn v_inn_house_ways_steps v_inn_house_cold v_inn_house_falls v_casts_set_rows v_casts_kin v_casts_plain_rows).bind (un18 fun (v_casts_tried_42 : Nat → Int32) (v_casts_trial_setting_42 : Int32) (v_casts_trial_been_42 : Int32) (v_casts_trial_ways_rooms_42 : Int32) (v_casts_trial_ways_steps_42 : Nat → Int32) (v_casts_trial_thingIn_42 : Nat → Int32) (v_casts_trial_full_42 : Nat → Int32) (v_casts_trial_heardBy_42 : Nat → Int64) (v_casts_trial_dreamOf_42 : Nat → Int32) (v_casts_trial_stateOf_42 : Nat → Int32) (v_casts_trial_roomOf_42 : Nat → Int32) (v_casts_trial_handOf_42 : Nat → Int32) (v_casts_trial_awake_42 : Nat → Int32) (v_casts_trial_how_42 : Nat → Int32) (v_casts_trial_passed_42 : Nat → Int32) (v_casts_set_rows_42 : Nat → Int64) (v_casts_kin_42 : Nat → Int32) (v_casts_plain_rows_42 : Nat → Int64) => (fX0_mostAlike N p0 p0 v_casts_fitting_23 v_casts_fitters_23 v_casts_kin_42).bind (un1 fun (r_52 : Int32) => (fX10_answer N r_52).bind (un2 fun (r_55 : Int32) (v_refusal_55 : Int32) => some (r_55, v_refusal_55, v_casts_fitting_23, v_casts_plain_rows_42, v_casts_fitters_23, v_casts_tried_42, v_casts_trial_setting_42, v_casts_trial_been_42, v_casts_trial_ways_rooms_42, v_casts_trial_ways_steps_42, v_casts_trial_thingIn_42, v_casts_trial_full_42, v_casts_trial_heardBy_42, v_casts_trial_dreamOf_42, v_casts_trial_stateOf_42, v_casts_trial_roomOf_42, v_casts_trial_handOf_42, v_casts_trial_awake_42, v_casts_trial_how_42, v_casts_trial_passed_42, v_casts_set_rows_42, v_casts_kin_42))))))))
set_option maxHeartbeats 4000000 in
set_option maxRecDepth 100000 in
theorem ctX10_parts (l : Launch) (E : EN) (h h_reader h_inn h_chosen h_night h_marks h_notes h_casts h_inn_house h_inn_thingIn h_inn_full h_inn_states h_inn_bed h_inn_dreamOf h_inn_listensIn h_inn_house_creak h_inn_house_cold h_inn_house_one h_inn_house_other h_inn_house_how h_inn_house_falls h_inn_house_ways h_casts_trial h_casts_dreams h_casts_plain h_casts_set h_casts_tried h_casts_kin h_casts_fitters h_notes_book h_notes_sort h_notes_one h_notes_other h_casts_plain_rows h_casts_trial_ways h_casts_trial_how h_casts_trial_passed h_casts_trial_dreamOf h_casts_trial_stateOf h_casts_trial_roomOf h_casts_trial_handOf h_casts_trial_awake h_casts_trial_thingIn h_casts_trial_full h_casts_trial_heardBy h_casts_trial_ways_steps h_inn_house_ways_steps h_casts_set_rows : Nat) (v_marked : Int32) (v_refusal : Int32) (v_latestFault : Int32) (v_faultPlace : Int32) (v_inn_minutes : Int32) (v_inn_things : Int32) (v_inn_dreams : Int32) (v_inn_sleepers : Int32) (v_inn_listeners : Int32) (v_inn_house_rooms : Int32) (v_inn_house_doors : Int32) (v_casts_count : Int32) (v_casts_fitting : Int32) (v_notes_count : Int32) (v_notes_book : Nat → Int32) (v_notes_sort : Nat → Int32) (v_notes_one : Nat → Int32) (v_casts_plain_rows : Nat → Int64) (v_notes_other : Nat → Int32) (v_casts_fitters : Nat → Int32) (v_casts_tried : Nat → Int32) (v_casts_trial_setting : Int32) (v_casts_trial_been : Int32) (v_inn_house_how : Nat → Int32) (v_casts_trial_ways_rooms : Int32) (v_casts_trial_ways_steps : Nat → Int32) (v_inn_house_one : Nat → Int32) (v_inn_house_other : Nat → Int32) (v_inn_thingIn : Nat → Int32) (v_casts_trial_thingIn : Nat → Int32) (v_inn_full : Nat → Int32) (v_casts_trial_full : Nat → Int32) (v_casts_trial_heardBy : Nat → Int64) (v_casts_dreams : Nat → Int32) (v_casts_trial_dreamOf : Nat → Int32) (v_casts_trial_stateOf : Nat → Int32) (v_inn_bed : Nat → Int32) (v_casts_trial_roomOf : Nat → Int32) (v_casts_trial_handOf : Nat → Int32) (v_casts_trial_awake : Nat → Int32) (v_casts_trial_how : Nat → Int32) (v_casts_trial_passed : Nat → Int32) (v_inn_states : Nat → Int32) (v_inn_house_creak : Nat → Int32) (v_inn_listensIn : Nat → Int32) (v_inn_house_ways_rooms : Int32) (v_inn_house_ways_steps : Nat → Int32) (v_inn_house_cold : Nat → Int32) (v_inn_house_falls : Nat → Int32) (v_casts_set_rows : Nat → Int64) (v_casts_kin : Nat → Int32) (N : Nat) (p0 : Int32) (z : Int32 × Int32 × Int32 × (Nat → Int64) × (Nat → Int32) × (Nat → Int32) × Int32 × Int32 × Int32 × (Nat → Int32) × (Nat → Int32) × (Nat → Int32) × (Nat → Int64) × (Nat → Int32) × (Nat → Int32) × (Nat → Int32) × (Nat → Int32) × (Nat → Int32) × (Nat → Int32) × (Nat → Int32) × (Nat → Int64) × (Nat → Int32)) (hf : fX10_parts N p0 v_inn_minutes v_inn_things v_inn_sleepers v_inn_listeners v_inn_house_rooms v_inn_house_doors v_casts_count v_casts_fitting v_notes_count v_notes_book v_notes_sort v_notes_one v_casts_plain_rows v_notes_other v_casts_fitters v_casts_tried v_casts_trial_setting v_casts_trial_been v_inn_house_how v_casts_trial_ways_rooms v_casts_trial_ways_steps v_inn_house_one v_inn_house_other v_inn_thingIn v_casts_trial_thingIn v_inn_full v_casts_trial_full v_casts_trial_heardBy v_casts_dreams v_casts_trial_dreamOf v_casts_trial_stateOf v_inn_bed v_casts_trial_roomOf v_casts_trial_handOf v_casts_trial_awake v_casts_trial_how v_casts_trial_passed v_inn_states v_inn_house_creak v_inn_listensIn v_inn_house_ways_steps v_inn_house_cold v_inn_house_falls v_casts_set_rows v_casts_kin = some z) : CTi l E yX10_parts cX10_parts 2 .int 6 144 [.ref h, .int p0] (wX10_parts E h h_reader h_inn h_chosen h_night h_marks h_notes h_casts h_inn_house h_inn_thingIn h_inn_full h_inn_states h_inn_bed h_inn_dreamOf h_inn_listensIn h_inn_house_creak h_inn_house_cold h_inn_house_one h_inn_house_other h_inn_house_how h_inn_house_falls h_inn_house_ways h_casts_trial h_casts_dreams h_casts_plain h_casts_set h_casts_tried h_casts_kin h_casts_fitters h_notes_book h_notes_sort h_notes_one h_notes_other h_casts_plain_rows h_casts_trial_ways h_casts_trial_how h_casts_trial_passed h_casts_trial_dreamOf h_casts_trial_stateOf h_casts_trial_roomOf h_casts_trial_handOf h_casts_trial_awake h_casts_trial_thingIn h_casts_trial_full h_casts_trial_heardBy h_casts_trial_ways_steps h_inn_house_ways_steps h_casts_set_rows v_marked v_refusal v_latestFault v_faultPlace v_inn_minutes v_inn_things v_inn_dreams v_inn_sleepers v_inn_listeners v_inn_house_rooms v_inn_house_doors v_casts_count v_casts_fitting v_notes_count v_notes_book v_notes_sort v_notes_one v_casts_plain_rows v_notes_other v_casts_fitters v_casts_tried v_casts_trial_setting v_casts_trial_been v_inn_house_how v_casts_trial_ways_rooms v_casts_trial_ways_steps v_inn_house_one v_inn_house_other v_inn_thingIn v_casts_trial_thingIn v_inn_full v_casts_trial_full v_casts_trial_heardBy v_casts_dreams v_casts_trial_dreamOf v_casts_trial_stateOf v_inn_bed v_casts_trial_roomOf v_casts_trial_handOf v_casts_trial_awake v_casts_trial_how v_casts_trial_passed v_inn_states v_inn_house_creak v_inn_listensIn v_inn_house_ways_rooms v_inn_house_ways_steps v_inn_house_cold v_inn_house_falls v_casts_set_rows v_casts_kin) (z.1) (wX10_parts E h h_reader h_inn h_chosen h_night h_marks h_notes h_casts h_inn_house h_inn_thingIn h_inn_full h_inn_states h_inn_bed h_inn_dreamOf h_inn_listensIn h_inn_house_creak h_inn_house_cold h_inn_house_one h_inn_house_other h_inn_house_how h_inn_house_falls h_inn_house_ways h_casts_trial h_casts_dreams h_casts_plain h_casts_set h_casts_tried h_casts_kin h_casts_fitters h_notes_book h_notes_sort h_notes_one h_notes_other h_casts_plain_rows h_casts_trial_ways h_casts_trial_how h_casts_trial_passed h_casts_trial_dreamOf h_casts_trial_stateOf h_casts_trial_roomOf h_casts_trial_handOf h_casts_trial_awake h_casts_trial_thingIn h_casts_trial_full h_casts_trial_heardBy h_casts_trial_ways_steps h_inn_house_ways_steps h_casts_set_rows v_marked z.2.1 v_latestFault v_faultPlace v_inn_minutes v_inn_things v_inn_dreams v_inn_sleepers v_inn_listeners v_inn_house_rooms v_inn_house_doors v_casts_count z.2.2.1 v_notes_count v_notes_book v_notes_sort v_notes_one z.2.2.2.1 v_notes_other z.2.2.2.2.1 z.2.2.2.2.2.1 z.2.2.2.2.2.2.1 z.2.2.2.2.2.2.2.1 v_inn_house_how z.2.2.2.2.2.2.2.2.1 z.2.2.2.2.2.2.2.2.2.1 v_inn_house_one v_inn_house_other v_inn_thingIn z.2.2.2.2.2.2.2.2.2.2.1 v_inn_full z.2.2.2.2.2.2.2.2.2.2.2.1 z.2.2.2.2.2.2.2.2.2.2.2.2.1 v_casts_dreams z.2.2.2.2.2.2.2.2.2.2.2.2.2.1 z.2.2.2.2.2.2.2.2.2.2.2.2.2.2.1 v_inn_bed z.2.2.2.2.2.2.2.2.2.2.2.2.2.2.2.1 z.2.2.2.2.2.2.2.2.2.2.2.2.2.2.2.2.1 z.2.2.2.2.2.2.2.2.2.2.2.2.2.2.2.2.2.1 z.2.2.2.2.2.2.2.2.2.2.2.2.2.2.2.2.2.2.1 z.2.2.2.2.2.2.2.2.2.2.2.2.2.2.2.2.2.2.2.1 v_inn_states v_inn_house_creak v_inn_listensIn v_inn_house_ways_rooms v_inn_house_ways_steps v_inn_house_cold v_inn_house_falls z.2.2.2.2.2.2.2.2.2.2.2.2.2.2.2.2.2.2.2.2.1 z.2.2.2.2.2.2.2.2.2.2.2.2.2.2.2.2.2.2.2.2.2) := by
  intro sz
  refine ct_body (by decide) (Nat.le_of_ble_eq_true rfl) ?_
  intro p e s m args below meth c A ls hAe C hr hin hP hD hS hl
  have C : CX p s m args meth c cX10_parts RX10 2 E A := C
  have hl : lv_has ls 2 [(0, .ref h), (1, .int p0)] := hl
  have hx := C.1
  have hb := C.2.1
  rw [hAe]
  clear hAe
  obtain ⟨Q, hQ⟩ : ∃ Q, Q = MQ below (Qi E A (z.1) (wX10_parts E h h_reader h_inn h_chosen h_night h_marks h_notes h_casts h_inn_house h_inn_thingIn h_inn_full h_inn_states h_inn_bed h_inn_dreamOf h_inn_listensIn h_inn_house_creak h_inn_house_cold h_inn_house_one h_inn_house_other h_inn_house_how h_inn_house_falls h_inn_house_ways h_casts_trial h_casts_dreams h_casts_plain h_casts_set h_casts_tried h_casts_kin h_casts_fitters h_notes_book h_notes_sort h_notes_one h_notes_other h_casts_plain_rows h_casts_trial_ways h_casts_trial_how h_casts_trial_passed h_casts_trial_dreamOf h_casts_trial_stateOf h_casts_trial_roomOf h_casts_trial_handOf h_casts_trial_awake h_casts_trial_thingIn h_casts_trial_full h_casts_trial_heardBy h_casts_trial_ways_steps h_inn_house_ways_steps h_casts_set_rows v_marked z.2.1 v_latestFault v_faultPlace v_inn_minutes v_inn_things v_inn_dreams v_inn_sleepers v_inn_listeners v_inn_house_rooms v_inn_house_doors v_casts_count z.2.2.1 v_notes_count v_notes_book v_notes_sort v_notes_one z.2.2.2.1 v_notes_other z.2.2.2.2.1 z.2.2.2.2.2.1 z.2.2.2.2.2.2.1 z.2.2.2.2.2.2.2.1 v_inn_house_how z.2.2.2.2.2.2.2.2.1 z.2.2.2.2.2.2.2.2.2.1 v_inn_house_one v_inn_house_other v_inn_thingIn z.2.2.2.2.2.2.2.2.2.2.1 v_inn_full z.2.2.2.2.2.2.2.2.2.2.2.1 z.2.2.2.2.2.2.2.2.2.2.2.2.1 v_casts_dreams z.2.2.2.2.2.2.2.2.2.2.2.2.2.1 z.2.2.2.2.2.2.2.2.2.2.2.2.2.2.1 v_inn_bed z.2.2.2.2.2.2.2.2.2.2.2.2.2.2.2.1 z.2.2.2.2.2.2.2.2.2.2.2.2.2.2.2.2.1 z.2.2.2.2.2.2.2.2.2.2.2.2.2.2.2.2.2.1 z.2.2.2.2.2.2.2.2.2.2.2.2.2.2.2.2.2.2.1 z.2.2.2.2.2.2.2.2.2.2.2.2.2.2.2.2.2.2.2.1 v_inn_states v_inn_house_creak v_inn_listensIn v_inn_house_ways_rooms v_inn_house_ways_steps v_inn_house_cold v_inn_house_falls z.2.2.2.2.2.2.2.2.2.2.2.2.2.2.2.2.2.2.2.2.1 z.2.2.2.2.2.2.2.2.2.2.2.2.2.2.2.2.2.2.2.2.2)) args s 0 0 A := ⟨_, rfl⟩
  rw [← hQ]
  unfold fX10_parts at hf
  refine lv_aload_n (pc := 0) hx hb dX10_parts_0 rfl (lv_at hl 0 rfl) ?_
  refine lv_iload_n (pc := 1) hx hb dX10_parts_1 rfl (lv_at hl 1 rfl) ?_
  obtain ⟨r_2, hc_2, hf⟩ := bd1 hf
  refine r_dalVi (pc := 2) (ws' := (wX10_parts E h h_reader h_inn h_chosen h_night h_marks h_notes h_casts h_inn_house h_inn_thingIn h_inn_full h_inn_states h_inn_bed h_inn_dreamOf h_inn_listensIn h_inn_house_creak h_inn_house_cold h_inn_house_one h_inn_house_other h_inn_house_how h_inn_house_falls h_inn_house_ways h_casts_trial h_casts_dreams h_casts_plain h_casts_set h_casts_tried h_casts_kin h_casts_fitters h_notes_book h_notes_sort h_notes_one h_notes_other h_casts_plain_rows h_casts_trial_ways h_casts_trial_how h_casts_trial_passed h_casts_trial_dreamOf h_casts_trial_stateOf h_casts_trial_roomOf h_casts_trial_handOf h_casts_trial_awake h_casts_trial_thingIn h_casts_trial_full h_casts_trial_heardBy h_casts_trial_ways_steps h_inn_house_ways_steps h_casts_set_rows v_marked v_refusal v_latestFault v_faultPlace v_inn_minutes v_inn_things v_inn_dreams v_inn_sleepers v_inn_listeners v_inn_house_rooms v_inn_house_doors v_casts_count v_casts_fitting v_notes_count v_notes_book v_notes_sort v_notes_one v_casts_plain_rows v_notes_other v_casts_fitters v_casts_tried v_casts_trial_setting v_casts_trial_been v_inn_house_how v_casts_trial_ways_rooms v_casts_trial_ways_steps v_inn_house_one v_inn_house_other v_inn_thingIn v_casts_trial_thingIn v_inn_full v_casts_trial_full v_casts_trial_heardBy v_casts_dreams v_casts_trial_dreamOf v_casts_trial_stateOf v_inn_bed v_casts_trial_roomOf v_casts_trial_handOf v_casts_trial_awake v_casts_trial_how v_casts_trial_passed v_inn_states v_inn_house_creak v_inn_listensIn v_inn_house_ways_rooms v_inn_house_ways_steps v_inn_house_cold v_inn_house_falls v_casts_set_rows v_casts_kin)) (As := [.int p0]) (rest := []) C (ctX10_isSetting l E h h_reader h_inn h_chosen h_night h_marks h_notes h_casts h_inn_house h_inn_thingIn h_inn_full h_inn_states h_inn_bed h_inn_dreamOf h_inn_listensIn h_inn_house_creak h_inn_house_cold h_inn_house_one h_inn_house_other h_inn_house_how h_inn_house_falls h_inn_house_ways v_marked v_refusal v_latestFault v_faultPlace v_inn_minutes v_inn_things v_inn_dreams v_inn_sleepers v_inn_listeners v_inn_house_rooms v_inn_house_doors N p0 r_2 hc_2) ml_X10_149 ⟨Nat.le_of_ble_eq_true rfl, Nat.le_of_ble_eq_true rfl⟩ hP hD hS 0 rfl rfl rfl [0, 1, 2] [43, 44, 45, 3, 4, 5, 6, 7, 8, 9, 10, 11, 12, 13, 14, 15, 16, 17, 18, 19, 20, 21, 22, 23, 24, 25, 26, 27, 28, 29, 30, 31, 32, 33, 34, 35, 36, 37, 38, 39, 40, 41, 42] 43 rfl rfl rfl rfl rfl rfl rfl hl.1 rfl (Nat.le_of_ble_eq_true rfl) ⟨Nat.zero_le _, Nat.zero_le _⟩ dX10_parts_2 ?_
  clear hP hD hS; intro H locs hP hD hS
  refine lv_if_ne (pc := 5) (tgt := 14) hx hb dX10_parts_5 (by decide) (fun c_5 => ?_) (fun c_5 => ?_)
  · replace hf := it_f c_5 hf
    refine lv_aload_n (pc := 14) hx hb dX10_parts_14 rfl (lv_at hl 0 rfl) ?_
    refine r_get (pc := 15) C hP 0 rfl fl_X10_50 rfl dX10_parts_15 ?_
    refine lv_aload_n (pc := 18) hx hb dX10_parts_18 rfl (lv_at hl 0 rfl) ?_
    refine r_get (pc := 19) C hP 0 rfl fl_X10_43 rfl dX10_parts_19 ?_
    refine lv_iconst (pc := 22) (v := 3) hx hb dX10_parts_22 (by decide) ?_
    obtain ⟨r_23, v_casts_fitting_23, v_casts_fitters_23, hc_23, hf⟩ := bd3 hf
    refine r_dalVi (pc := 23) (ws' := (wX10_parts E h h_reader h_inn h_chosen h_night h_marks h_notes h_casts h_inn_house h_inn_thingIn h_inn_full h_inn_states h_inn_bed h_inn_dreamOf h_inn_listensIn h_inn_house_creak h_inn_house_cold h_inn_house_one h_inn_house_other h_inn_house_how h_inn_house_falls h_inn_house_ways h_casts_trial h_casts_dreams h_casts_plain h_casts_set h_casts_tried h_casts_kin h_casts_fitters h_notes_book h_notes_sort h_notes_one h_notes_other h_casts_plain_rows h_casts_trial_ways h_casts_trial_how h_casts_trial_passed h_casts_trial_dreamOf h_casts_trial_stateOf h_casts_trial_roomOf h_casts_trial_handOf h_casts_trial_awake h_casts_trial_thingIn h_casts_trial_full h_casts_trial_heardBy h_casts_trial_ways_steps h_inn_house_ways_steps h_casts_set_rows v_marked v_refusal v_latestFault v_faultPlace v_inn_minutes v_inn_things v_inn_dreams v_inn_sleepers v_inn_listeners v_inn_house_rooms v_inn_house_doors v_casts_count v_casts_fitting_23 v_notes_count v_notes_book v_notes_sort v_notes_one v_casts_plain_rows v_notes_other v_casts_fitters_23 v_casts_tried v_casts_trial_setting v_casts_trial_been v_inn_house_how v_casts_trial_ways_rooms v_casts_trial_ways_steps v_inn_house_one v_inn_house_other v_inn_thingIn v_casts_trial_thingIn v_inn_full v_casts_trial_full v_casts_trial_heardBy v_casts_dreams v_casts_trial_dreamOf v_casts_trial_stateOf v_inn_bed v_casts_trial_roomOf v_casts_trial_handOf v_casts_trial_awake v_casts_trial_how v_casts_trial_passed v_inn_states v_inn_house_creak v_inn_listensIn v_inn_house_ways_rooms v_inn_house_ways_steps v_inn_house_cold v_inn_house_falls v_casts_set_rows v_casts_kin)) (As := [.ref h_notes, .int 3]) (rest := []) C (ctX0_gather l E h_casts h_casts_trial h_inn h_casts_dreams h_casts_plain h_casts_set h_casts_tried h_casts_kin h_casts_fitters h_notes h_notes_book h_notes_sort h_notes_one h_notes_other h_casts_plain_rows v_casts_count v_casts_fitting v_notes_count v_notes_book v_notes_sort v_notes_one v_casts_plain_rows v_notes_other v_casts_fitters N 3 (r_23, v_casts_fitting_23, v_casts_fitters_23) hc_23) ml_X10_262 ⟨Nat.le_of_ble_eq_true rfl, Nat.le_of_ble_eq_true rfl⟩ hP hD hS 3 rfl rfl rfl [3, 4, 5, 6, 7, 8, 9, 10, 11] [0, 1, 2, 43, 44, 45, 46, 47, 48, 49, 50, 51, 12, 13, 14, 15, 16, 17, 18, 19, 20, 21, 22, 23, 24, 25, 26, 27, 28, 29, 30, 31, 32, 33, 34, 35, 36, 37, 38, 39, 40, 41, 42] 43 rfl rfl rfl rfl rfl rfl rfl hl.1 rfl (Nat.le_of_ble_eq_true rfl) ⟨Nat.zero_le _, Nat.zero_le _⟩ dX10_parts_23 ?_
    clear hP hD hS; intro H locs hP hD hS
    refine lv_if_ne (pc := 26) (tgt := 36) hx hb dX10_parts_26 (by decide) (fun c_26 => ?_) (fun c_26 => ?_)
    · replace hf := it_f c_26 hf
      refine lv_aload_n (pc := 36) hx hb dX10_parts_36 rfl (lv_at hl 0 rfl) ?_
      refine r_get (pc := 37) C hP 0 rfl fl_X10_50 rfl dX10_parts_37 ?_
      refine lv_iload_n (pc := 40) hx hb dX10_parts_40 rfl (lv_at hl 1 rfl) ?_
      refine lv_iload_n (pc := 41) hx hb dX10_parts_41 rfl (lv_at hl 1 rfl) ?_
      obtain ⟨v_casts_tried_42, v_casts_trial_setting_42, v_casts_trial_been_42, v_casts_trial_ways_rooms_42, v_casts_trial_ways_steps_42, v_casts_trial_thingIn_42, v_casts_trial_full_42, v_casts_trial_heardBy_42, v_casts_trial_dreamOf_42, v_casts_trial_stateOf_42, v_casts_trial_roomOf_42, v_casts_trial_handOf_42, v_casts_trial_awake_42, v_casts_trial_how_42, v_casts_trial_passed_42, v_casts_set_rows_42, v_casts_kin_42, v_casts_plain_rows_42, hc_42, hf⟩ := bd18 hf
      refine r_dalVv (pc := 42) (ws' := (wX10_parts E h h_reader h_inn h_chosen h_night h_marks h_notes h_casts h_inn_house h_inn_thingIn h_inn_full h_inn_states h_inn_bed h_inn_dreamOf h_inn_listensIn h_inn_house_creak h_inn_house_cold h_inn_house_one h_inn_house_other h_inn_house_how h_inn_house_falls h_inn_house_ways h_casts_trial h_casts_dreams h_casts_plain h_casts_set h_casts_tried h_casts_kin h_casts_fitters h_notes_book h_notes_sort h_notes_one h_notes_other h_casts_plain_rows h_casts_trial_ways h_casts_trial_how h_casts_trial_passed h_casts_trial_dreamOf h_casts_trial_stateOf h_casts_trial_roomOf h_casts_trial_handOf h_casts_trial_awake h_casts_trial_thingIn h_casts_trial_full h_casts_trial_heardBy h_casts_trial_ways_steps h_inn_house_ways_steps h_casts_set_rows v_marked v_refusal v_latestFault v_faultPlace v_inn_minutes v_inn_things v_inn_dreams v_inn_sleepers v_inn_listeners v_inn_house_rooms v_inn_house_doors v_casts_count v_casts_fitting_23 v_notes_count v_notes_book v_notes_sort v_notes_one v_casts_plain_rows_42 v_notes_other v_casts_fitters_23 v_casts_tried_42 v_casts_trial_setting_42 v_casts_trial_been_42 v_inn_house_how v_casts_trial_ways_rooms_42 v_casts_trial_ways_steps_42 v_inn_house_one v_inn_house_other v_inn_thingIn v_casts_trial_thingIn_42 v_inn_full v_casts_trial_full_42 v_casts_trial_heardBy_42 v_casts_dreams v_casts_trial_dreamOf_42 v_casts_trial_stateOf_42 v_inn_bed v_casts_trial_roomOf_42 v_casts_trial_handOf_42 v_casts_trial_awake_42 v_casts_trial_how_42 v_casts_trial_passed_42 v_inn_states v_inn_house_creak v_inn_listensIn v_inn_house_ways_rooms v_inn_house_ways_steps v_inn_house_cold v_inn_house_falls v_casts_set_rows_42 v_casts_kin_42)) (As := [.int p0, .int p0]) (rest := []) C (ctX0_tryOuts l E h_casts h_casts_trial h_inn h_casts_dreams h_casts_plain h_casts_set h_casts_tried h_casts_kin h_casts_fitters h_casts_trial_ways h_casts_trial_how h_casts_trial_passed h_casts_trial_dreamOf h_casts_trial_stateOf h_casts_trial_roomOf h_casts_trial_handOf h_casts_trial_awake h_casts_trial_thingIn h_casts_trial_full h_casts_trial_heardBy h_inn_house h_inn_thingIn h_inn_full h_inn_states h_inn_bed h_inn_dreamOf h_inn_listensIn h_inn_house_creak h_inn_house_cold h_inn_house_one h_inn_house_other h_inn_house_how h_inn_house_falls h_inn_house_ways h_casts_trial_ways_steps h_inn_house_ways_steps h_casts_set_rows h_casts_plain_rows v_casts_count v_casts_fitting_23 v_casts_tried v_casts_trial_setting v_casts_trial_been v_inn_minutes v_inn_things v_inn_dreams v_inn_sleepers v_inn_listeners v_inn_house_rooms v_inn_house_doors v_inn_house_how v_casts_trial_ways_rooms v_casts_trial_ways_steps v_inn_house_one v_inn_house_other v_inn_thingIn v_casts_trial_thingIn v_inn_full v_casts_trial_full v_casts_trial_heardBy v_casts_dreams v_casts_trial_dreamOf v_casts_trial_stateOf v_inn_bed v_casts_trial_roomOf v_casts_trial_handOf v_casts_trial_awake v_casts_trial_how v_casts_trial_passed v_inn_states v_inn_house_creak v_inn_listensIn v_inn_house_ways_rooms v_inn_house_ways_steps v_inn_house_cold v_inn_house_falls v_casts_set_rows v_casts_kin v_casts_plain_rows N p0 p0 (v_casts_tried_42, v_casts_trial_setting_42, v_casts_trial_been_42, v_casts_trial_ways_rooms_42, v_casts_trial_ways_steps_42, v_casts_trial_thingIn_42, v_casts_trial_full_42, v_casts_trial_heardBy_42, v_casts_trial_dreamOf_42, v_casts_trial_stateOf_42, v_casts_trial_roomOf_42, v_casts_trial_handOf_42, v_casts_trial_awake_42, v_casts_trial_how_42, v_casts_trial_passed_42, v_casts_set_rows_42, v_casts_kin_42, v_casts_plain_rows_42) hc_42) ml_X10_88 ⟨Nat.le_of_ble_eq_true rfl, Nat.le_of_ble_eq_true rfl⟩ hP hD hS 3 rfl rfl rfl [3, 12, 13, 1, 2, 14, 15, 16, 17, 18, 19, 20, 21, 22, 23, 24, 25, 26, 27, 28, 29, 30, 31, 32, 33, 34, 35, 36, 37, 38, 39, 40, 41, 42, 8, 9] [0, 46, 47, 43, 4, 5, 6, 7, 77, 78, 10, 11, 44, 45, 48, 49, 50, 51, 52, 53, 54, 55, 56, 57, 58, 59, 60, 61, 62, 63, 64, 65, 66, 67, 68, 69, 70, 71, 72, 73, 74, 75, 76] 43 rfl rfl rfl rfl rfl rfl rfl hl.1 rfl (Nat.le_of_ble_eq_true rfl) ⟨Nat.zero_le _, Nat.zero_le _⟩ dX10_parts_42 ?_
      clear hP hD hS; intro H locs hP hD hS
      refine lv_aload_n (pc := 45) hx hb dX10_parts_45 rfl (lv_at hl 0 rfl) ?_
      refine lv_aload_n (pc := 46) hx hb dX10_parts_46 rfl (lv_at hl 0 rfl) ?_
      refine r_get (pc := 47) C hP 0 rfl fl_X10_50 rfl dX10_parts_47 ?_
      refine lv_iload_n (pc := 50) hx hb dX10_parts_50 rfl (lv_at hl 1 rfl) ?_
      refine lv_iload_n (pc := 51) hx hb dX10_parts_51 rfl (lv_at hl 1 rfl) ?_
      obtain ⟨r_52, hc_52, hf⟩ := bd1 hf
      refine r_dalVi (pc := 52) (ws' := (wX10_parts E h h_reader h_inn h_chosen h_night h_marks h_notes h_casts h_inn_house h_inn_thingIn h_inn_full h_inn_states h_inn_bed h_inn_dreamOf h_inn_listensIn h_inn_house_creak h_inn_house_cold h_inn_house_one h_inn_house_other h_inn_house_how h_inn_house_falls h_inn_house_ways h_casts_trial h_casts_dreams h_casts_plain h_casts_set h_casts_tried h_casts_kin h_casts_fitters h_notes_book h_notes_sort h_notes_one h_notes_other h_casts_plain_rows h_casts_trial_ways h_casts_trial_how h_casts_trial_passed h_casts_trial_dreamOf h_casts_trial_stateOf h_casts_trial_roomOf h_casts_trial_handOf h_casts_trial_awake h_casts_trial_thingIn h_casts_trial_full h_casts_trial_heardBy h_casts_trial_ways_steps h_inn_house_ways_steps h_casts_set_rows v_marked v_refusal v_latestFault v_faultPlace v_inn_minutes v_inn_things v_inn_dreams v_inn_sleepers v_inn_listeners v_inn_house_rooms v_inn_house_doors v_casts_count v_casts_fitting_23 v_notes_count v_notes_book v_notes_sort v_notes_one v_casts_plain_rows_42 v_notes_other v_casts_fitters_23 v_casts_tried_42 v_casts_trial_setting_42 v_casts_trial_been_42 v_inn_house_how v_casts_trial_ways_rooms_42 v_casts_trial_ways_steps_42 v_inn_house_one v_inn_house_other v_inn_thingIn v_casts_trial_thingIn_42 v_inn_full v_casts_trial_full_42 v_casts_trial_heardBy_42 v_casts_dreams v_casts_trial_dreamOf_42 v_casts_trial_stateOf_42 v_inn_bed v_casts_trial_roomOf_42 v_casts_trial_handOf_42 v_casts_trial_awake_42 v_casts_trial_how_42 v_casts_trial_passed_42 v_inn_states v_inn_house_creak v_inn_listensIn v_inn_house_ways_rooms v_inn_house_ways_steps v_inn_house_cold v_inn_house_falls v_casts_set_rows_42 v_casts_kin_42)) (As := [.int p0, .int p0]) (rest := [.ref h]) C (ctX0_mostAlike l E h_casts h_casts_trial h_inn h_casts_dreams h_casts_plain h_casts_set h_casts_tried h_casts_kin h_casts_fitters v_casts_count v_casts_fitting_23 v_casts_fitters_23 v_casts_kin_42 N p0 p0 r_52 hc_52) ml_X10_272 ⟨Nat.le_of_ble_eq_true rfl, Nat.le_of_ble_eq_true rfl⟩ hP hD hS 3 rfl rfl rfl [3, 11, 42] [0, 1, 2, 43, 4, 5, 6, 7, 8, 9, 10, 44, 12, 13, 14, 15, 16, 17, 18, 19, 20, 21, 22, 23, 24, 25, 26, 27, 28, 29, 30, 31, 32, 33, 34, 35, 36, 37, 38, 39, 40, 41, 45] 43 rfl rfl rfl rfl rfl rfl rfl hl.1 rfl (Nat.le_of_ble_eq_true rfl) ⟨Nat.zero_le _, Nat.zero_le _⟩ dX10_parts_52 ?_
      clear hP hD hS; intro H locs hP hD hS
      obtain ⟨r_55, v_refusal_55, hc_55, hf⟩ := bd2 hf
      refine r_dalVi (pc := 55) (ws' := (wX10_parts E h h_reader h_inn h_chosen h_night h_marks h_notes h_casts h_inn_house h_inn_thingIn h_inn_full h_inn_states h_inn_bed h_inn_dreamOf h_inn_listensIn h_inn_house_creak h_inn_house_cold h_inn_house_one h_inn_house_other h_inn_house_how h_inn_house_falls h_inn_house_ways h_casts_trial h_casts_dreams h_casts_plain h_casts_set h_casts_tried h_casts_kin h_casts_fitters h_notes_book h_notes_sort h_notes_one h_notes_other h_casts_plain_rows h_casts_trial_ways h_casts_trial_how h_casts_trial_passed h_casts_trial_dreamOf h_casts_trial_stateOf h_casts_trial_roomOf h_casts_trial_handOf h_casts_trial_awake h_casts_trial_thingIn h_casts_trial_full h_casts_trial_heardBy h_casts_trial_ways_steps h_inn_house_ways_steps h_casts_set_rows v_marked v_refusal_55 v_latestFault v_faultPlace v_inn_minutes v_inn_things v_inn_dreams v_inn_sleepers v_inn_listeners v_inn_house_rooms v_inn_house_doors v_casts_count v_casts_fitting_23 v_notes_count v_notes_book v_notes_sort v_notes_one v_casts_plain_rows_42 v_notes_other v_casts_fitters_23 v_casts_tried_42 v_casts_trial_setting_42 v_casts_trial_been_42 v_inn_house_how v_casts_trial_ways_rooms_42 v_casts_trial_ways_steps_42 v_inn_house_one v_inn_house_other v_inn_thingIn v_casts_trial_thingIn_42 v_inn_full v_casts_trial_full_42 v_casts_trial_heardBy_42 v_casts_dreams v_casts_trial_dreamOf_42 v_casts_trial_stateOf_42 v_inn_bed v_casts_trial_roomOf_42 v_casts_trial_handOf_42 v_casts_trial_awake_42 v_casts_trial_how_42 v_casts_trial_passed_42 v_inn_states v_inn_house_creak v_inn_listensIn v_inn_house_ways_rooms v_inn_house_ways_steps v_inn_house_cold v_inn_house_falls v_casts_set_rows_42 v_casts_kin_42)) (As := [.int r_52]) (rest := []) C (ctX10_answer l E h h_reader h_inn h_chosen h_night h_marks h_notes h_casts v_marked v_refusal v_latestFault v_faultPlace N r_52 (r_55, v_refusal_55) hc_55) ml_X10_95 ⟨Nat.le_of_ble_eq_true rfl, Nat.le_of_ble_eq_true rfl⟩ hP hD hS 0 rfl rfl rfl [0] [43, 1, 2, 3, 4, 5, 6, 7, 8, 9, 10, 11, 12, 13, 14, 15, 16, 17, 18, 19, 20, 21, 22, 23, 24, 25, 26, 27, 28, 29, 30, 31, 32, 33, 34, 35, 36, 37, 38, 39, 40, 41, 42] 43 rfl rfl rfl rfl rfl rfl rfl hl.1 rfl (Nat.le_of_ble_eq_true rfl) ⟨Nat.zero_le _, Nat.zero_le _⟩ dX10_parts_55 ?_
      clear hP hD hS; intro H locs hP hD hS
      cases hf
      rw [hQ]
      exact r_iret C hr hP hD hS rfl dX10_parts_58
    · replace hf := it_t c_26 hf
      refine lv_aload_n (pc := 29) hx hb dX10_parts_29 rfl (lv_at hl 0 rfl) ?_
      refine lv_bipush (pc := 30) (v := 6) hx hb dX10_parts_30 (by decide) ?_
      obtain ⟨r_32, v_refusal_32, hc_32, hf⟩ := bd2 hf
      refine r_dalVi (pc := 32) (ws' := (wX10_parts E h h_reader h_inn h_chosen h_night h_marks h_notes h_casts h_inn_house h_inn_thingIn h_inn_full h_inn_states h_inn_bed h_inn_dreamOf h_inn_listensIn h_inn_house_creak h_inn_house_cold h_inn_house_one h_inn_house_other h_inn_house_how h_inn_house_falls h_inn_house_ways h_casts_trial h_casts_dreams h_casts_plain h_casts_set h_casts_tried h_casts_kin h_casts_fitters h_notes_book h_notes_sort h_notes_one h_notes_other h_casts_plain_rows h_casts_trial_ways h_casts_trial_how h_casts_trial_passed h_casts_trial_dreamOf h_casts_trial_stateOf h_casts_trial_roomOf h_casts_trial_handOf h_casts_trial_awake h_casts_trial_thingIn h_casts_trial_full h_casts_trial_heardBy h_casts_trial_ways_steps h_inn_house_ways_steps h_casts_set_rows v_marked v_refusal_32 v_latestFault v_faultPlace v_inn_minutes v_inn_things v_inn_dreams v_inn_sleepers v_inn_listeners v_inn_house_rooms v_inn_house_doors v_casts_count v_casts_fitting_23 v_notes_count v_notes_book v_notes_sort v_notes_one v_casts_plain_rows v_notes_other v_casts_fitters_23 v_casts_tried v_casts_trial_setting v_casts_trial_been v_inn_house_how v_casts_trial_ways_rooms v_casts_trial_ways_steps v_inn_house_one v_inn_house_other v_inn_thingIn v_casts_trial_thingIn v_inn_full v_casts_trial_full v_casts_trial_heardBy v_casts_dreams v_casts_trial_dreamOf v_casts_trial_stateOf v_inn_bed v_casts_trial_roomOf v_casts_trial_handOf v_casts_trial_awake v_casts_trial_how v_casts_trial_passed v_inn_states v_inn_house_creak v_inn_listensIn v_inn_house_ways_rooms v_inn_house_ways_steps v_inn_house_cold v_inn_house_falls v_casts_set_rows v_casts_kin)) (As := [.int 6]) (rest := []) C (ctX10_refuse l E h h_reader h_inn h_chosen h_night h_marks h_notes h_casts v_marked v_refusal v_latestFault v_faultPlace N 6 (r_32, v_refusal_32) hc_32) ml_X10_68 ⟨Nat.le_of_ble_eq_true rfl, Nat.le_of_ble_eq_true rfl⟩ hP hD hS 0 rfl rfl rfl [0] [43, 1, 2, 3, 4, 5, 6, 7, 8, 9, 10, 11, 12, 13, 14, 15, 16, 17, 18, 19, 20, 21, 22, 23, 24, 25, 26, 27, 28, 29, 30, 31, 32, 33, 34, 35, 36, 37, 38, 39, 40, 41, 42] 43 rfl rfl rfl rfl rfl rfl rfl hl.1 rfl (Nat.le_of_ble_eq_true rfl) ⟨Nat.zero_le _, Nat.zero_le _⟩ dX10_parts_32 ?_
      clear hP hD hS; intro H locs hP hD hS
      cases hf
      rw [hQ]
      exact r_iret C hr hP hD hS rfl dX10_parts_35
  · replace hf := it_t c_5 hf
    refine lv_aload_n (pc := 8) hx hb dX10_parts_8 rfl (lv_at hl 0 rfl) ?_
    refine lv_iconst (pc := 9) (v := 1) hx hb dX10_parts_9 (by decide) ?_
    obtain ⟨r_10, v_refusal_10, hc_10, hf⟩ := bd2 hf
    refine r_dalVi (pc := 10) (ws' := (wX10_parts E h h_reader h_inn h_chosen h_night h_marks h_notes h_casts h_inn_house h_inn_thingIn h_inn_full h_inn_states h_inn_bed h_inn_dreamOf h_inn_listensIn h_inn_house_creak h_inn_house_cold h_inn_house_one h_inn_house_other h_inn_house_how h_inn_house_falls h_inn_house_ways h_casts_trial h_casts_dreams h_casts_plain h_casts_set h_casts_tried h_casts_kin h_casts_fitters h_notes_book h_notes_sort h_notes_one h_notes_other h_casts_plain_rows h_casts_trial_ways h_casts_trial_how h_casts_trial_passed h_casts_trial_dreamOf h_casts_trial_stateOf h_casts_trial_roomOf h_casts_trial_handOf h_casts_trial_awake h_casts_trial_thingIn h_casts_trial_full h_casts_trial_heardBy h_casts_trial_ways_steps h_inn_house_ways_steps h_casts_set_rows v_marked v_refusal_10 v_latestFault v_faultPlace v_inn_minutes v_inn_things v_inn_dreams v_inn_sleepers v_inn_listeners v_inn_house_rooms v_inn_house_doors v_casts_count v_casts_fitting v_notes_count v_notes_book v_notes_sort v_notes_one v_casts_plain_rows v_notes_other v_casts_fitters v_casts_tried v_casts_trial_setting v_casts_trial_been v_inn_house_how v_casts_trial_ways_rooms v_casts_trial_ways_steps v_inn_house_one v_inn_house_other v_inn_thingIn v_casts_trial_thingIn v_inn_full v_casts_trial_full v_casts_trial_heardBy v_casts_dreams v_casts_trial_dreamOf v_casts_trial_stateOf v_inn_bed v_casts_trial_roomOf v_casts_trial_handOf v_casts_trial_awake v_casts_trial_how v_casts_trial_passed v_inn_states v_inn_house_creak v_inn_listensIn v_inn_house_ways_rooms v_inn_house_ways_steps v_inn_house_cold v_inn_house_falls v_casts_set_rows v_casts_kin)) (As := [.int 1]) (rest := []) C (ctX10_refuse l E h h_reader h_inn h_chosen h_night h_marks h_notes h_casts v_marked v_refusal v_latestFault v_faultPlace N 1 (r_10, v_refusal_10) hc_10) ml_X10_68 ⟨Nat.le_of_ble_eq_true rfl, Nat.le_of_ble_eq_true rfl⟩ hP hD hS 0 rfl rfl rfl [0] [43, 1, 2, 3, 4, 5, 6, 7, 8, 9, 10, 11, 12, 13, 14, 15, 16, 17, 18, 19, 20, 21, 22, 23, 24, 25, 26, 27, 28, 29, 30, 31, 32, 33, 34, 35, 36, 37, 38, 39, 40, 41, 42] 43 rfl rfl rfl rfl rfl rfl rfl hl.1 rfl (Nat.le_of_ble_eq_true rfl) ⟨Nat.zero_le _, Nat.zero_le _⟩ dX10_parts_10 ?_
    clear hP hD hS; intro H locs hP hD hS
    cases hf
    rw [hQ]
    exact r_iret C hr hP hD hS rfl dX10_parts_13
def wX0_bestSetting (E : EN) (h h_trial h_inn h_dreams h_plain h_set h_tried h_kin h_fitters h_inn_house h_inn_thingIn h_inn_full h_inn_states h_inn_bed h_inn_dreamOf h_inn_listensIn h_inn_house_creak h_inn_house_cold h_inn_house_one h_inn_house_other h_inn_house_how h_inn_house_falls h_inn_house_ways : Nat) (v_count : Int32) (v_fitting : Int32) (v_fitters : Nat → Int32) (v_kin : Nat → Int32) (v_inn_minutes : Int32) (v_inn_things : Int32) (v_inn_dreams : Int32) (v_inn_sleepers : Int32) (v_inn_listeners : Int32) (v_inn_house_rooms : Int32) (v_inn_house_doors : Int32) : va_W := [(h, .inr (0, [.ref h_trial, .ref h_inn, .int v_count, .ref h_dreams, .ref h_plain, .ref h_set, .ref h_tried, .ref h_kin, .int v_fitting, .ref h_fitters])), (h_fitters, aI E 64 v_fitters), (h_kin, aI E 1344 v_kin), (h_inn, .inr (2, [.ref h_inn_house, .int v_inn_minutes, .int v_inn_things, .ref h_inn_thingIn, .ref h_inn_full, .int v_inn_dreams, .ref h_inn_states, .int v_inn_sleepers, .ref h_inn_bed, .ref h_inn_dreamOf, .int v_inn_listeners, .ref h_inn_listensIn])), (h_inn_house, .inr (1, [.int v_inn_house_rooms, .ref h_inn_house_creak, .ref h_inn_house_cold, .int v_inn_house_doors, .ref h_inn_house_one, .ref h_inn_house_other, .ref h_inn_house_how, .ref h_inn_house_falls, .ref h_inn_house_ways]))]
def BX0_bestSetting_11 (N : Nat) (v_inn_house_doors : Int32) (v_fitting : Int32) (v_fitters : Nat → Int32) (v_kin : Nat → Int32) (rec11 : (Int32 × Int32 × Int32) → Option Int32) : (Int32 × Int32 × Int32) → Option Int32 := un3 fun (x11_1 : Int32) (x11_2 : Int32) (x11_3 : Int32) => (fX2_settings N v_inn_house_doors).bind (un1 fun (r_16 : Int32) => if r_16 ≤ x11_3 then (some x11_1) else ((fX0_mostAlike N x11_3 x11_3 v_fitting v_fitters v_kin).bind (un1 fun (r_25 : Int32) => jn (un2 fun (x41_1 : Int32) (x41_2 : Int32) => rec11 (x41_1, x41_2, x11_3 + 1)) (fun j41 => if x11_2 ≤ r_25 then (j41 (x11_1, x11_2)) else (j41 (x11_3, r_25))))))
def fX0_bestSetting (N : Nat) (v_fitting : Int32) (v_fitters : Nat → Int32) (v_kin : Nat → Int32) (v_inn_house_doors : Int32) : Option Int32 := (fX0_mostAlike N 0 0 v_fitting v_fitters v_kin).bind (un1 fun (r_5 : Int32) => lp (BX0_bestSetting_11 N v_inn_house_doors v_fitting v_fitters v_kin) N (0, r_5, 1))
set_option maxHeartbeats 4000000 in
set_option maxRecDepth 100000 in
theorem ctX0_bestSetting (l : Launch) (E : EN) (h h_trial h_inn h_dreams h_plain h_set h_tried h_kin h_fitters h_inn_house h_inn_thingIn h_inn_full h_inn_states h_inn_bed h_inn_dreamOf h_inn_listensIn h_inn_house_creak h_inn_house_cold h_inn_house_one h_inn_house_other h_inn_house_how h_inn_house_falls h_inn_house_ways : Nat) (v_count : Int32) (v_fitting : Int32) (v_fitters : Nat → Int32) (v_kin : Nat → Int32) (v_inn_minutes : Int32) (v_inn_things : Int32) (v_inn_dreams : Int32) (v_inn_sleepers : Int32) (v_inn_listeners : Int32) (v_inn_house_rooms : Int32) (v_inn_house_doors : Int32) (N : Nat) (z : Int32) (hf : fX0_bestSetting N v_fitting v_fitters v_kin v_inn_house_doors = some z) : CTi l E yX0_bestSetting cX0_bestSetting 5 .int 2 50 [.ref h] (wX0_bestSetting E h h_trial h_inn h_dreams h_plain h_set h_tried h_kin h_fitters h_inn_house h_inn_thingIn h_inn_full h_inn_states h_inn_bed h_inn_dreamOf h_inn_listensIn h_inn_house_creak h_inn_house_cold h_inn_house_one h_inn_house_other h_inn_house_how h_inn_house_falls h_inn_house_ways v_count v_fitting v_fitters v_kin v_inn_minutes v_inn_things v_inn_dreams v_inn_sleepers v_inn_listeners v_inn_house_rooms v_inn_house_doors) (z) (wX0_bestSetting E h h_trial h_inn h_dreams h_plain h_set h_tried h_kin h_fitters h_inn_house h_inn_thingIn h_inn_full h_inn_states h_inn_bed h_inn_dreamOf h_inn_listensIn h_inn_house_creak h_inn_house_cold h_inn_house_one h_inn_house_other h_inn_house_how h_inn_house_falls h_inn_house_ways v_count v_fitting v_fitters v_kin v_inn_minutes v_inn_things v_inn_dreams v_inn_sleepers v_inn_listeners v_inn_house_rooms v_inn_house_doors) := by
  intro sz
  refine ct_body (by decide) (Nat.le_of_ble_eq_true rfl) ?_
  intro p e s m args below meth c A ls hAe C hr hin hP hD hS hl
  have C : CX p s m args meth c cX0_bestSetting RX0 5 E A := C
  have hl : lv_has ls 5 [(0, .ref h)] := hl
  have hx := C.1
  have hb := C.2.1
  rw [hAe]
  clear hAe
  obtain ⟨Q, hQ⟩ : ∃ Q, Q = MQ below (Qi E A (z) (wX0_bestSetting E h h_trial h_inn h_dreams h_plain h_set h_tried h_kin h_fitters h_inn_house h_inn_thingIn h_inn_full h_inn_states h_inn_bed h_inn_dreamOf h_inn_listensIn h_inn_house_creak h_inn_house_cold h_inn_house_one h_inn_house_other h_inn_house_how h_inn_house_falls h_inn_house_ways v_count v_fitting v_fitters v_kin v_inn_minutes v_inn_things v_inn_dreams v_inn_sleepers v_inn_listeners v_inn_house_rooms v_inn_house_doors)) args s 0 0 A := ⟨_, rfl⟩
  rw [← hQ]
  unfold fX0_bestSetting at hf
  refine lv_iconst (pc := 0) (v := 0) hx hb dX0_bestSetting_0 (by decide) ?_
  refine lv_istore_n (pc := 1) (lv' := [(1, .int 0), (0, .ref h)]) hx hb dX0_bestSetting_1 rfl hl (by decide) rfl (fun ls hl => ?_)
  refine lv_aload_n (pc := 2) hx hb dX0_bestSetting_2 rfl (lv_at hl 1 rfl) ?_
  refine lv_iconst (pc := 3) (v := 0) hx hb dX0_bestSetting_3 (by decide) ?_
  refine lv_iconst (pc := 4) (v := 0) hx hb dX0_bestSetting_4 (by decide) ?_
  obtain ⟨r_5, hc_5, hf⟩ := bd1 hf
  refine r_dalVi (pc := 5) (ws' := (wX0_bestSetting E h h_trial h_inn h_dreams h_plain h_set h_tried h_kin h_fitters h_inn_house h_inn_thingIn h_inn_full h_inn_states h_inn_bed h_inn_dreamOf h_inn_listensIn h_inn_house_creak h_inn_house_cold h_inn_house_one h_inn_house_other h_inn_house_how h_inn_house_falls h_inn_house_ways v_count v_fitting v_fitters v_kin v_inn_minutes v_inn_things v_inn_dreams v_inn_sleepers v_inn_listeners v_inn_house_rooms v_inn_house_doors)) (As := [.int 0, .int 0]) (rest := []) C (ctX0_mostAlike l E h h_trial h_inn h_dreams h_plain h_set h_tried h_kin h_fitters v_count v_fitting v_fitters v_kin N 0 0 r_5 hc_5) ml_X0_113 ⟨Nat.le_of_ble_eq_true rfl, Nat.le_of_ble_eq_true rfl⟩ hP hD hS 0 rfl rfl rfl [0, 1, 2] [5, 6, 7, 3, 4] 5 rfl rfl rfl rfl rfl rfl rfl hl.1 rfl (Nat.le_of_ble_eq_true rfl) ⟨Nat.zero_le _, Nat.zero_le _⟩ dX0_bestSetting_5 ?_
  clear hP hD hS; intro H locs hP hD hS
  refine lv_istore_n (pc := 8) (lv' := [(2, .int r_5), (1, .int 0), (0, .ref h)]) hx hb dX0_bestSetting_8 rfl hl (by decide) rfl (fun ls hl => ?_)
  refine lv_iconst (pc := 9) (v := 1) hx hb dX0_bestSetting_9 (by decide) ?_
  refine lv_istore_n (pc := 10) (lv' := [(3, .int 1), (2, .int r_5), (1, .int 0), (0, .ref h)]) hx hb dX0_bestSetting_10 rfl hl (by decide) rfl (fun ls hl => ?_)
  have key11 : ∀ (n : Nat) (x11_1 : Int32) (x11_2 : Int32) (x11_3 : Int32) , lp (BX0_bestSetting_11 N v_inn_house_doors v_fitting v_fitters v_kin) n (x11_1, x11_2, x11_3) = some z → AT p l e (rmOf 2 50) s m args below meth c E A Q 0 0 5 [(0, .ref h), (1, .int x11_1), (2, .int x11_2), (3, .int x11_3)] (wX0_bestSetting E h h_trial h_inn h_dreams h_plain h_set h_tried h_kin h_fitters h_inn_house h_inn_thingIn h_inn_full h_inn_states h_inn_bed h_inn_dreamOf h_inn_listensIn h_inn_house_creak h_inn_house_cold h_inn_house_one h_inn_house_other h_inn_house_how h_inn_house_falls h_inn_house_ways v_count v_fitting v_fitters v_kin v_inn_minutes v_inn_things v_inn_dreams v_inn_sleepers v_inn_listeners v_inn_house_rooms v_inn_house_doors) 11 [] := by
    intro n
    induction n with
    | zero => intro x11_1 x11_2 x11_3 hf; exact (lp_0 hf).elim
    | succ n ih11 =>
      intro x11_1 x11_2 x11_3 hf H locs ls hl hP hD hS
      replace hf := lp_s hf
      generalize lp (BX0_bestSetting_11 N v_inn_house_doors v_fitting v_fitters v_kin) n = rec11 at ih11 hf
      unfold BX0_bestSetting_11 at hf
      replace hf := un3_s hf
      refine lv_iload_n (pc := 11) hx hb dX0_bestSetting_11 rfl (lv_at hl 3 rfl) ?_
      refine lv_aload_n (pc := 12) hx hb dX0_bestSetting_12 rfl (lv_at hl 0 rfl) ?_
      refine r_get (pc := 13) C hP 0 rfl fl_X0_35 rfl dX0_bestSetting_13 ?_
      obtain ⟨r_16, hc_16, hf⟩ := bd1 hf
      refine r_dalVi (pc := 16) (ws' := (wX0_bestSetting E h h_trial h_inn h_dreams h_plain h_set h_tried h_kin h_fitters h_inn_house h_inn_thingIn h_inn_full h_inn_states h_inn_bed h_inn_dreamOf h_inn_listensIn h_inn_house_creak h_inn_house_cold h_inn_house_one h_inn_house_other h_inn_house_how h_inn_house_falls h_inn_house_ways v_count v_fitting v_fitters v_kin v_inn_minutes v_inn_things v_inn_dreams v_inn_sleepers v_inn_listeners v_inn_house_rooms v_inn_house_doors)) (As := []) (rest := [.int x11_3]) C (ctX2_settings l E h_inn h_inn_house h_inn_thingIn h_inn_full h_inn_states h_inn_bed h_inn_dreamOf h_inn_listensIn h_inn_house_creak h_inn_house_cold h_inn_house_one h_inn_house_other h_inn_house_how h_inn_house_falls h_inn_house_ways v_inn_minutes v_inn_things v_inn_dreams v_inn_sleepers v_inn_listeners v_inn_house_rooms v_inn_house_doors N r_16 hc_16) ml_X0_116 ⟨Nat.le_of_ble_eq_true rfl, Nat.le_of_ble_eq_true rfl⟩ hP hD hS 3 rfl rfl rfl [3, 4] [0, 1, 2, 5, 6] 5 rfl rfl rfl rfl rfl rfl rfl hl.1 rfl (Nat.le_of_ble_eq_true rfl) ⟨Nat.zero_le _, Nat.zero_le _⟩ dX0_bestSetting_16 ?_
      clear hP hD hS; intro H locs hP hD hS
      refine lv_icmp_ge (pc := 19) (tgt := 47) hx hb dX0_bestSetting_19 (by decide) (fun c_19 => ?_) (fun c_19 => ?_)
      · replace hf := it_t c_19 hf
        refine lv_iload_n (pc := 47) hx hb dX0_bestSetting_47 rfl (lv_at hl 1 rfl) ?_
        cases hf
        rw [hQ]
        exact r_iret C hr hP hD hS rfl dX0_bestSetting_48
      · replace hf := it_f c_19 hf
        refine lv_aload_n (pc := 22) hx hb dX0_bestSetting_22 rfl (lv_at hl 0 rfl) ?_
        refine lv_iload_n (pc := 23) hx hb dX0_bestSetting_23 rfl (lv_at hl 3 rfl) ?_
        refine lv_iload_n (pc := 24) hx hb dX0_bestSetting_24 rfl (lv_at hl 3 rfl) ?_
        obtain ⟨r_25, hc_25, hf⟩ := bd1 hf
        refine r_dalVi (pc := 25) (ws' := (wX0_bestSetting E h h_trial h_inn h_dreams h_plain h_set h_tried h_kin h_fitters h_inn_house h_inn_thingIn h_inn_full h_inn_states h_inn_bed h_inn_dreamOf h_inn_listensIn h_inn_house_creak h_inn_house_cold h_inn_house_one h_inn_house_other h_inn_house_how h_inn_house_falls h_inn_house_ways v_count v_fitting v_fitters v_kin v_inn_minutes v_inn_things v_inn_dreams v_inn_sleepers v_inn_listeners v_inn_house_rooms v_inn_house_doors)) (As := [.int x11_3, .int x11_3]) (rest := []) C (ctX0_mostAlike l E h h_trial h_inn h_dreams h_plain h_set h_tried h_kin h_fitters v_count v_fitting v_fitters v_kin N x11_3 x11_3 r_25 hc_25) ml_X0_113 ⟨Nat.le_of_ble_eq_true rfl, Nat.le_of_ble_eq_true rfl⟩ hP hD hS 0 rfl rfl rfl [0, 1, 2] [5, 6, 7, 3, 4] 5 rfl rfl rfl rfl rfl rfl rfl hl.1 rfl (Nat.le_of_ble_eq_true rfl) ⟨Nat.zero_le _, Nat.zero_le _⟩ dX0_bestSetting_25 ?_
        clear hP hD hS; intro H locs hP hD hS
        refine lv_istore (pc := 28) (lv' := [(4, .int r_25), (0, .ref h), (1, .int x11_1), (2, .int x11_2), (3, .int x11_3)]) hx hb dX0_bestSetting_28 hl (by decide) rfl (fun ls hl => ?_)
        refine lv_iload (pc := 30) hx hb dX0_bestSetting_30 (lv_at hl 0 rfl) ?_
        refine lv_iload_n (pc := 32) hx hb dX0_bestSetting_32 rfl (lv_at hl 3 rfl) ?_
        refine jnK hf (fun j41 ej41 hf => ?_)
        have hj41 : ∀ (x41_1 : Int32) (x41_2 : Int32) , j41 (x41_1, x41_2) = some z → AT p l e (rmOf 2 50) s m args below meth c E A Q 0 0 5 [(0, .ref h), (1, .int x41_1), (2, .int x41_2), (3, .int x11_3)] (wX0_bestSetting E h h_trial h_inn h_dreams h_plain h_set h_tried h_kin h_fitters h_inn_house h_inn_thingIn h_inn_full h_inn_states h_inn_bed h_inn_dreamOf h_inn_listensIn h_inn_house_creak h_inn_house_cold h_inn_house_one h_inn_house_other h_inn_house_how h_inn_house_falls h_inn_house_ways v_count v_fitting v_fitters v_kin v_inn_minutes v_inn_things v_inn_dreams v_inn_sleepers v_inn_listeners v_inn_house_rooms v_inn_house_doors) 41 [] := by
          intro x41_1 x41_2 hf H locs ls hl hP hD hS
          rw [ej41] at hf
          replace hf := un2_s hf
          refine lv_iinc (pc := 41) (v := x11_3 + 1) (lv' := [(3, .int (x11_3 + 1)), (0, .ref h), (1, .int x41_1), (2, .int x41_2)]) hx hb dX0_bestSetting_41 hl (k := 3) rfl rfl (by decide) rfl (fun ls hl => ?_)
          refine lv_goto (pc := 44) (tgt := 11) hx hb dX0_bestSetting_44 (by decide) ?_
          exact ih11 x41_1 x41_2 (x11_3 + 1) hf _ _ _ (lv_sub hl [1, 2, 3, 0] rfl) hP hD hS
        clear ej41
        refine lv_icmp_ge (pc := 33) (tgt := 41) hx hb dX0_bestSetting_33 (by decide) (fun c_33 => ?_) (fun c_33 => ?_)
        · replace hf := it_t c_33 hf
          exact hj41 x11_1 x11_2 hf _ _ _ (lv_sub hl [1, 2, 3, 4] rfl) hP hD hS
        · replace hf := it_f c_33 hf
          refine lv_iload (pc := 36) hx hb dX0_bestSetting_36 (lv_at hl 0 rfl) ?_
          refine lv_istore_n (pc := 38) (lv' := [(2, .int r_25), (4, .int r_25), (0, .ref h), (1, .int x11_1), (3, .int x11_3)]) hx hb dX0_bestSetting_38 rfl hl (by decide) rfl (fun ls hl => ?_)
          refine lv_iload_n (pc := 39) hx hb dX0_bestSetting_39 rfl (lv_at hl 4 rfl) ?_
          refine lv_istore_n (pc := 40) (lv' := [(1, .int x11_3), (2, .int r_25), (4, .int r_25), (0, .ref h), (3, .int x11_3)]) hx hb dX0_bestSetting_40 rfl hl (by decide) rfl (fun ls hl => ?_)
          exact hj41 x11_3 r_25 hf _ _ _ (lv_sub hl [3, 0, 1, 4] rfl) hP hD hS
  exact key11 _ 0 r_5 1 hf _ _ _ (lv_sub hl [3, 2, 1, 0] rfl) hP hD hS
def wX10_best (E : EN) (h h_reader h_inn h_chosen h_night h_marks h_notes h_casts h_inn_house h_inn_thingIn h_inn_full h_inn_states h_inn_bed h_inn_dreamOf h_inn_listensIn h_casts_trial h_casts_dreams h_casts_plain h_casts_set h_casts_tried h_casts_kin h_casts_fitters h_notes_book h_notes_sort h_notes_one h_notes_other h_casts_plain_rows h_inn_house_creak h_inn_house_cold h_inn_house_one h_inn_house_other h_inn_house_how h_inn_house_falls h_inn_house_ways h_casts_trial_ways h_casts_trial_how h_casts_trial_passed h_casts_trial_dreamOf h_casts_trial_stateOf h_casts_trial_roomOf h_casts_trial_handOf h_casts_trial_awake h_casts_trial_thingIn h_casts_trial_full h_casts_trial_heardBy h_casts_trial_ways_steps h_inn_house_ways_steps h_casts_set_rows : Nat) (v_marked : Int32) (v_refusal : Int32) (v_latestFault : Int32) (v_faultPlace : Int32) (v_inn_minutes : Int32) (v_inn_things : Int32) (v_inn_dreams : Int32) (v_inn_sleepers : Int32) (v_inn_listeners : Int32) (v_casts_count : Int32) (v_casts_fitting : Int32) (v_notes_count : Int32) (v_notes_book : Nat → Int32) (v_notes_sort : Nat → Int32) (v_notes_one : Nat → Int32) (v_casts_plain_rows : Nat → Int64) (v_notes_other : Nat → Int32) (v_casts_fitters : Nat → Int32) (v_inn_house_rooms : Int32) (v_inn_house_doors : Int32) (v_casts_tried : Nat → Int32) (v_casts_trial_setting : Int32) (v_casts_trial_been : Int32) (v_inn_house_how : Nat → Int32) (v_casts_trial_ways_rooms : Int32) (v_casts_trial_ways_steps : Nat → Int32) (v_inn_house_one : Nat → Int32) (v_inn_house_other : Nat → Int32) (v_inn_thingIn : Nat → Int32) (v_casts_trial_thingIn : Nat → Int32) (v_inn_full : Nat → Int32) (v_casts_trial_full : Nat → Int32) (v_casts_trial_heardBy : Nat → Int64) (v_casts_dreams : Nat → Int32) (v_casts_trial_dreamOf : Nat → Int32) (v_casts_trial_stateOf : Nat → Int32) (v_inn_bed : Nat → Int32) (v_casts_trial_roomOf : Nat → Int32) (v_casts_trial_handOf : Nat → Int32) (v_casts_trial_awake : Nat → Int32) (v_casts_trial_how : Nat → Int32) (v_casts_trial_passed : Nat → Int32) (v_inn_states : Nat → Int32) (v_inn_house_creak : Nat → Int32) (v_inn_listensIn : Nat → Int32) (v_inn_house_ways_rooms : Int32) (v_inn_house_ways_steps : Nat → Int32) (v_inn_house_cold : Nat → Int32) (v_inn_house_falls : Nat → Int32) (v_casts_set_rows : Nat → Int64) (v_casts_kin : Nat → Int32) : va_W := [(h, .inr (9, [.ref h_reader, .ref h_inn, .ref h_chosen, .ref h_night, .ref h_marks, .int v_marked, .ref h_notes, .ref h_casts, .int v_refusal, .int v_latestFault, .int v_faultPlace])), (h_inn, .inr (2, [.ref h_inn_house, .int v_inn_minutes, .int v_inn_things, .ref h_inn_thingIn, .ref h_inn_full, .int v_inn_dreams, .ref h_inn_states, .int v_inn_sleepers, .ref h_inn_bed, .ref h_inn_dreamOf, .int v_inn_listeners, .ref h_inn_listensIn])), (h_casts, .inr (0, [.ref h_casts_trial, .ref h_inn, .int v_casts_count, .ref h_casts_dreams, .ref h_casts_plain, .ref h_casts_set, .ref h_casts_tried, .ref h_casts_kin, .int v_casts_fitting, .ref h_casts_fitters])), (h_notes, .inr (5, [.ref h_notes_book, .ref h_notes_sort, .ref h_notes_one, .ref h_notes_other, .int v_notes_count])), (h_notes_book, aI E 20 v_notes_book), (h_notes_sort, aI E 20 v_notes_sort), (h_notes_one, aI E 20 v_notes_one), (h_casts_plain, .inr (3, [.ref h_casts_plain_rows])), (h_casts_plain_rows, aJ E 256 v_casts_plain_rows), (h_notes_other, aI E 20 v_notes_other), (h_casts_fitters, aI E 64 v_casts_fitters), (h_inn_house, .inr (1, [.int v_inn_house_rooms, .ref h_inn_house_creak, .ref h_inn_house_cold, .int v_inn_house_doors, .ref h_inn_house_one, .ref h_inn_house_other, .ref h_inn_house_how, .ref h_inn_house_falls, .ref h_inn_house_ways])), (h_casts_tried, aZ E 21 v_casts_tried), (h_casts_trial, .inr (4, [.ref h_inn, .int v_casts_trial_setting, .int v_casts_trial_been, .ref h_casts_trial_ways, .ref h_casts_trial_how, .ref h_casts_trial_passed, .ref h_casts_trial_dreamOf, .ref h_casts_trial_stateOf, .ref h_casts_trial_roomOf, .ref h_casts_trial_handOf, .ref h_casts_trial_awake, .ref h_casts_trial_thingIn, .ref h_casts_trial_full, .ref h_casts_trial_heardBy])), (h_inn_house_how, aI E 10 v_inn_house_how), (h_casts_trial_ways, .inr (8, [.ref h_casts_trial_ways_steps, .int v_casts_trial_ways_rooms])), (h_casts_trial_ways_steps, aI E 64 v_casts_trial_ways_steps), (h_inn_house_one, aI E 10 v_inn_house_one), (h_inn_house_other, aI E 10 v_inn_house_other), (h_inn_thingIn, aI E 4 v_inn_thingIn), (h_casts_trial_thingIn, aI E 4 v_casts_trial_thingIn), (h_inn_full, aZ E 4 v_inn_full), (h_casts_trial_full, aZ E 4 v_casts_trial_full), (h_casts_trial_heardBy, aJ E 3 v_casts_trial_heardBy), (h_casts_dreams, aI E 192 v_casts_dreams), (h_casts_trial_dreamOf, aI E 3 v_casts_trial_dreamOf), (h_casts_trial_stateOf, aI E 3 v_casts_trial_stateOf), (h_inn_bed, aI E 3 v_inn_bed), (h_casts_trial_roomOf, aI E 3 v_casts_trial_roomOf), (h_casts_trial_handOf, aI E 3 v_casts_trial_handOf), (h_casts_trial_awake, aZ E 3 v_casts_trial_awake), (h_casts_trial_how, aI E 10 v_casts_trial_how), (h_casts_trial_passed, aI E 10 v_casts_trial_passed), (h_inn_states, aI E 64 v_inn_states), (h_inn_house_creak, aI E 8 v_inn_house_creak), (h_inn_listensIn, aI E 3 v_inn_listensIn), (h_inn_house_ways, .inr (8, [.ref h_inn_house_ways_steps, .int v_inn_house_ways_rooms])), (h_inn_house_ways_steps, aI E 64 v_inn_house_ways_steps), (h_inn_house_cold, aZ E 8 v_inn_house_cold), (h_inn_house_falls, aZ E 10 v_inn_house_falls), (h_casts_set, .inr (3, [.ref h_casts_set_rows])), (h_casts_set_rows, aJ E 256 v_casts_set_rows), (h_casts_kin, aI E 1344 v_casts_kin)]
def fX10_best (N : Nat) (v_inn_minutes : Int32) (v_inn_things : Int32) (v_inn_sleepers : Int32) (v_inn_listeners : Int32) (v_casts_count : Int32) (v_casts_fitting : Int32) (v_notes_count : Int32) (v_notes_book : Nat → Int32) (v_notes_sort : Nat → Int32) (v_notes_one : Nat → Int32) (v_casts_plain_rows : Nat → Int64) (v_notes_other : Nat → Int32) (v_casts_fitters : Nat → Int32) (v_inn_house_rooms : Int32) (v_inn_house_doors : Int32) (v_casts_tried : Nat → Int32) (v_casts_trial_setting : Int32) (v_casts_trial_been : Int32) (v_inn_house_how : Nat → Int32) (v_casts_trial_ways_rooms : Int32) (v_casts_trial_ways_steps : Nat → Int32) (v_inn_house_one : Nat → Int32) (v_inn_house_other : Nat → Int32) (v_inn_thingIn : Nat → Int32) (v_casts_trial_thingIn : Nat → Int32) (v_inn_full : Nat → Int32) (v_casts_trial_full : Nat → Int32) (v_casts_trial_heardBy : Nat → Int64) (v_casts_dreams : Nat → Int32) (v_casts_trial_dreamOf : Nat → Int32) (v_casts_trial_stateOf : Nat → Int32) (v_inn_bed : Nat → Int32) (v_casts_trial_roomOf : Nat → Int32) (v_casts_trial_handOf : Nat → Int32) (v_casts_trial_awake : Nat → Int32) (v_casts_trial_how : Nat → Int32) (v_casts_trial_passed : Nat → Int32) (v_inn_states : Nat → Int32) (v_inn_house_creak : Nat → Int32) (v_inn_listensIn : Nat → Int32) (v_inn_house_ways_steps : Nat → Int32) (v_inn_house_cold : Nat → Int32) (v_inn_house_falls : Nat → Int32) (v_casts_set_rows : Nat → Int64) (v_casts_kin : Nat → Int32) : Option (Int32 × Int32 × Int32 × (Nat → Int64) × (Nat → Int32) × (Nat → Int32) × Int32 × Int32 × Int32 × (Nat → Int32) × (Nat → Int32) × (Nat → Int32) × (Nat → Int64) × (Nat → Int32) × (Nat → Int32) × (Nat → Int32) × (Nat → Int32) × (Nat → Int32) × (Nat → Int32) × (Nat → Int32) × (Nat → Int64) × (Nat → Int32)) := (fX10_isTold N v_inn_minutes).bind (un1 fun (r_1 : Int32) => if r_1 = 0 then ((fX10_refuse N 1).bind (un2 fun (r_9 : Int32) (v_refusal_9 : Int32) => some (r_9, v_refusal_9, v_casts_fitting, v_casts_plain_rows, v_casts_fitters, v_casts_tried, v_casts_trial_setting, v_casts_trial_been, v_casts_trial_ways_rooms, v_casts_trial_ways_steps, v_casts_trial_thingIn, v_casts_trial_full, v_casts_trial_heardBy, v_casts_trial_dreamOf, v_casts_trial_stateOf, v_casts_trial_roomOf, v_casts_trial_handOf, v_casts_trial_awake, v_casts_trial_how, v_casts_trial_passed, v_casts_set_rows, v_casts_kin))) else ((fX0_gather N 3 v_casts_count v_notes_count v_notes_book v_notes_sort v_notes_one v_casts_plain_rows v_notes_other v_casts_fitters).bind (un3 fun (r_22 : Int32) (v_casts_fitting_22 : Int32) (v_casts_fitters_22 : Nat → Int32) => if r_22 = 0 then ((fX10_refuse N 6).bind (un2 fun (r_31 : Int32) (v_refusal_31 : Int32) => some (r_31, v_refusal_31, v_casts_fitting_22, v_casts_plain_rows, v_casts_fitters_22, v_casts_tried, v_casts_trial_setting, v_casts_trial_been, v_casts_trial_ways_rooms, v_casts_trial_ways_steps, v_casts_trial_thingIn, v_casts_trial_full, v_casts_trial_heardBy, v_casts_trial_dreamOf, v_casts_trial_stateOf, v_casts_trial_roomOf, v_casts_trial_handOf, v_casts_trial_awake, v_casts_trial_how, v_casts_trial_passed, v_casts_set_rows, v_casts_kin))) else ((fX2_settings N v_inn_house_doors).bind (un1 fun (r_44 : Int32) => (fX0_tryOuts N 0 (r_44 - 1) v_casts_count v_casts_tried v_casts_trial_setting v_casts_trial_been v_inn_minutes v_inn_things v_inn_sleepers v_inn_listeners v_inn_house_rooms v_inn_house_doors v_inn_house_how v_casts_trial_ways_rooms v_casts_trial_ways_steps v_inn_house_one v_inn_house_other v_inn_thingIn v_casts_trial_thingIn v_inn_full v_casts_trial_full v_casts_trial_heardBy v_casts_dreams v_casts_trial_dreamOf v_casts_trial_stateOf v_inn_bed v_casts_trial_roomOf v_casts_trial_handOf v_casts_trial_awake v_casts_trial_how v_casts_trial_passed v_inn_states v_inn_house_creak v_inn_listensIn v_inn_house_ways_steps v_inn_house_cold v_inn_house_falls v_casts_set_rows v_casts_kin v_casts_plain_rows).bind (un18 fun (v_casts_tried_49 : Nat → Int32) (v_casts_trial_setting_49 : Int32) (v_casts_trial_been_49 : Int32) (v_casts_trial_ways_rooms_49 : Int32) (v_casts_trial_ways_steps_49 : Nat → Int32) (v_casts_trial_thingIn_49 : Nat → Int32) (v_casts_trial_full_49 : Nat → Int32) (v_casts_trial_heardBy_49 : Nat → Int64) (v_casts_trial_dreamOf_49 : Nat → Int32) (v_casts_trial_stateOf_49 : Nat → Int32) (v_casts_trial_roomOf_49 : Nat → Int32) (v_casts_trial_handOf_49 : Nat → Int32) (v_casts_trial_awake_49 : Nat → Int32) (v_casts_trial_how_49 : Nat → Int32) (v_casts_trial_passed_49 : Nat → Int32) (v_casts_set_rows_49 : Nat → Int64) (v_casts_kin_49 : Nat → Int32) (v_casts_plain_rows_49 : Nat → Int64) => (fX0_bestSetting N v_casts_fitting_22 v_casts_fitters_22 v_casts_kin_49 v_inn_house_doors).bind (un1 fun (r_57 : Int32) => (fX10_answer N r_57).bind (un2 fun (r_60 : Int32) (v_refusal_60 : Int32) => some (r_60, v_refusal_60, v_casts_fitting_22, v_casts_plain_rows_49, v_casts_fitters_22, v_casts_tried_49, v_casts_trial_setting_49, v_casts_trial_been_49, v_casts_trial_ways_rooms_49, v_casts_trial_ways_steps_49, v_casts_trial_thingIn_49, v_casts_trial_full_49, v_casts_trial_heardBy_49, v_casts_trial_dreamOf_49, v_casts_trial_stateOf_49, v_casts_trial_roomOf_49, v_casts_trial_handOf_49, v_casts_trial_awake_49, v_casts_trial_how_49, v_casts_trial_passed_49, v_casts_set_rows_49, v_casts_kin_49)))))))))
set_option maxHeartbeats 4000000 in
set_option maxRecDepth 100000 in
theorem ctX10_best (l : Launch) (E : EN) (h h_reader h_inn h_chosen h_night h_marks h_notes h_casts h_inn_house h_inn_thingIn h_inn_full h_inn_states h_inn_bed h_inn_dreamOf h_inn_listensIn h_casts_trial h_casts_dreams h_casts_plain h_casts_set h_casts_tried h_casts_kin h_casts_fitters h_notes_book h_notes_sort h_notes_one h_notes_other h_casts_plain_rows h_inn_house_creak h_inn_house_cold h_inn_house_one h_inn_house_other h_inn_house_how h_inn_house_falls h_inn_house_ways h_casts_trial_ways h_casts_trial_how h_casts_trial_passed h_casts_trial_dreamOf h_casts_trial_stateOf h_casts_trial_roomOf h_casts_trial_handOf h_casts_trial_awake h_casts_trial_thingIn h_casts_trial_full h_casts_trial_heardBy h_casts_trial_ways_steps h_inn_house_ways_steps h_casts_set_rows : Nat) (v_marked : Int32) (v_refusal : Int32) (v_latestFault : Int32) (v_faultPlace : Int32) (v_inn_minutes : Int32) (v_inn_things : Int32) (v_inn_dreams : Int32) (v_inn_sleepers : Int32) (v_inn_listeners : Int32) (v_casts_count : Int32) (v_casts_fitting : Int32) (v_notes_count : Int32) (v_notes_book : Nat → Int32) (v_notes_sort : Nat → Int32) (v_notes_one : Nat → Int32) (v_casts_plain_rows : Nat → Int64) (v_notes_other : Nat → Int32) (v_casts_fitters : Nat → Int32) (v_inn_house_rooms : Int32) (v_inn_house_doors : Int32) (v_casts_tried : Nat → Int32) (v_casts_trial_setting : Int32) (v_casts_trial_been : Int32) (v_inn_house_how : Nat → Int32) (v_casts_trial_ways_rooms : Int32) (v_casts_trial_ways_steps : Nat → Int32) (v_inn_house_one : Nat → Int32) (v_inn_house_other : Nat → Int32) (v_inn_thingIn : Nat → Int32) (v_casts_trial_thingIn : Nat → Int32) (v_inn_full : Nat → Int32) (v_casts_trial_full : Nat → Int32) (v_casts_trial_heardBy : Nat → Int64) (v_casts_dreams : Nat → Int32) (v_casts_trial_dreamOf : Nat → Int32) (v_casts_trial_stateOf : Nat → Int32) (v_inn_bed : Nat → Int32) (v_casts_trial_roomOf : Nat → Int32) (v_casts_trial_handOf : Nat → Int32) (v_casts_trial_awake : Nat → Int32) (v_casts_trial_how : Nat → Int32) (v_casts_trial_passed : Nat → Int32) (v_inn_states : Nat → Int32) (v_inn_house_creak : Nat → Int32) (v_inn_listensIn : Nat → Int32) (v_inn_house_ways_rooms : Int32) (v_inn_house_ways_steps : Nat → Int32) (v_inn_house_cold : Nat → Int32) (v_inn_house_falls : Nat → Int32) (v_casts_set_rows : Nat → Int64) (v_casts_kin : Nat → Int32) (N : Nat) (z : Int32 × Int32 × Int32 × (Nat → Int64) × (Nat → Int32) × (Nat → Int32) × Int32 × Int32 × Int32 × (Nat → Int32) × (Nat → Int32) × (Nat → Int32) × (Nat → Int64) × (Nat → Int32) × (Nat → Int32) × (Nat → Int32) × (Nat → Int32) × (Nat → Int32) × (Nat → Int32) × (Nat → Int32) × (Nat → Int64) × (Nat → Int32)) (hf : fX10_best N v_inn_minutes v_inn_things v_inn_sleepers v_inn_listeners v_casts_count v_casts_fitting v_notes_count v_notes_book v_notes_sort v_notes_one v_casts_plain_rows v_notes_other v_casts_fitters v_inn_house_rooms v_inn_house_doors v_casts_tried v_casts_trial_setting v_casts_trial_been v_inn_house_how v_casts_trial_ways_rooms v_casts_trial_ways_steps v_inn_house_one v_inn_house_other v_inn_thingIn v_casts_trial_thingIn v_inn_full v_casts_trial_full v_casts_trial_heardBy v_casts_dreams v_casts_trial_dreamOf v_casts_trial_stateOf v_inn_bed v_casts_trial_roomOf v_casts_trial_handOf v_casts_trial_awake v_casts_trial_how v_casts_trial_passed v_inn_states v_inn_house_creak v_inn_listensIn v_inn_house_ways_steps v_inn_house_cold v_inn_house_falls v_casts_set_rows v_casts_kin = some z) : CTi l E yX10_best cX10_best 1 .int 6 144 [.ref h] (wX10_best E h h_reader h_inn h_chosen h_night h_marks h_notes h_casts h_inn_house h_inn_thingIn h_inn_full h_inn_states h_inn_bed h_inn_dreamOf h_inn_listensIn h_casts_trial h_casts_dreams h_casts_plain h_casts_set h_casts_tried h_casts_kin h_casts_fitters h_notes_book h_notes_sort h_notes_one h_notes_other h_casts_plain_rows h_inn_house_creak h_inn_house_cold h_inn_house_one h_inn_house_other h_inn_house_how h_inn_house_falls h_inn_house_ways h_casts_trial_ways h_casts_trial_how h_casts_trial_passed h_casts_trial_dreamOf h_casts_trial_stateOf h_casts_trial_roomOf h_casts_trial_handOf h_casts_trial_awake h_casts_trial_thingIn h_casts_trial_full h_casts_trial_heardBy h_casts_trial_ways_steps h_inn_house_ways_steps h_casts_set_rows v_marked v_refusal v_latestFault v_faultPlace v_inn_minutes v_inn_things v_inn_dreams v_inn_sleepers v_inn_listeners v_casts_count v_casts_fitting v_notes_count v_notes_book v_notes_sort v_notes_one v_casts_plain_rows v_notes_other v_casts_fitters v_inn_house_rooms v_inn_house_doors v_casts_tried v_casts_trial_setting v_casts_trial_been v_inn_house_how v_casts_trial_ways_rooms v_casts_trial_ways_steps v_inn_house_one v_inn_house_other v_inn_thingIn v_casts_trial_thingIn v_inn_full v_casts_trial_full v_casts_trial_heardBy v_casts_dreams v_casts_trial_dreamOf v_casts_trial_stateOf v_inn_bed v_casts_trial_roomOf v_casts_trial_handOf v_casts_trial_awake v_casts_trial_how v_casts_trial_passed v_inn_states v_inn_house_creak v_inn_listensIn v_inn_house_ways_rooms v_inn_house_ways_steps v_inn_house_cold v_inn_house_falls v_casts_set_rows v_casts_kin) (z.1) (wX10_best E h h_reader h_inn h_chosen h_night h_marks h_notes h_casts h_inn_house h_inn_thingIn h_inn_full h_inn_states h_inn_bed h_inn_dreamOf h_inn_listensIn h_casts_trial h_casts_dreams h_casts_plain h_casts_set h_casts_tried h_casts_kin h_casts_fitters h_notes_book h_notes_sort h_notes_one h_notes_other h_casts_plain_rows h_inn_house_creak h_inn_house_cold h_inn_house_one h_inn_house_other h_inn_house_how h_inn_house_falls h_inn_house_ways h_casts_trial_ways h_casts_trial_how h_casts_trial_passed h_casts_trial_dreamOf h_casts_trial_stateOf h_casts_trial_roomOf h_casts_trial_handOf h_casts_trial_awake h_casts_trial_thingIn h_casts_trial_full h_casts_trial_heardBy h_casts_trial_ways_steps h_inn_house_ways_steps h_casts_set_rows v_marked z.2.1 v_latestFault v_faultPlace v_inn_minutes v_inn_things v_inn_dreams v_inn_sleepers v_inn_listeners v_casts_count z.2.2.1 v_notes_count v_notes_book v_notes_sort v_notes_one z.2.2.2.1 v_notes_other z.2.2.2.2.1 v_inn_house_rooms v_inn_house_doors z.2.2.2.2.2.1 z.2.2.2.2.2.2.1 z.2.2.2.2.2.2.2.1 v_inn_house_how z.2.2.2.2.2.2.2.2.1 z.2.2.2.2.2.2.2.2.2.1 v_inn_house_one v_inn_house_other v_inn_thingIn z.2.2.2.2.2.2.2.2.2.2.1 v_inn_full z.2.2.2.2.2.2.2.2.2.2.2.1 z.2.2.2.2.2.2.2.2.2.2.2.2.1 v_casts_dreams z.2.2.2.2.2.2.2.2.2.2.2.2.2.1 z.2.2.2.2.2.2.2.2.2.2.2.2.2.2.1 v_inn_bed z.2.2.2.2.2.2.2.2.2.2.2.2.2.2.2.1 z.2.2.2.2.2.2.2.2.2.2.2.2.2.2.2.2.1 z.2.2.2.2.2.2.2.2.2.2.2.2.2.2.2.2.2.1 z.2.2.2.2.2.2.2.2.2.2.2.2.2.2.2.2.2.2.1 z.2.2.2.2.2.2.2.2.2.2.2.2.2.2.2.2.2.2.2.1 v_inn_states v_inn_house_creak v_inn_listensIn v_inn_house_ways_rooms v_inn_house_ways_steps v_inn_house_cold v_inn_house_falls z.2.2.2.2.2.2.2.2.2.2.2.2.2.2.2.2.2.2.2.2.1 z.2.2.2.2.2.2.2.2.2.2.2.2.2.2.2.2.2.2.2.2.2) := by
  intro sz
  refine ct_body (by decide) (Nat.le_of_ble_eq_true rfl) ?_
  intro p e s m args below meth c A ls hAe C hr hin hP hD hS hl
  have C : CX p s m args meth c cX10_best RX10 1 E A := C
  have hl : lv_has ls 1 [(0, .ref h)] := hl
  have hx := C.1
  have hb := C.2.1
  rw [hAe]
  clear hAe
  obtain ⟨Q, hQ⟩ : ∃ Q, Q = MQ below (Qi E A (z.1) (wX10_best E h h_reader h_inn h_chosen h_night h_marks h_notes h_casts h_inn_house h_inn_thingIn h_inn_full h_inn_states h_inn_bed h_inn_dreamOf h_inn_listensIn h_casts_trial h_casts_dreams h_casts_plain h_casts_set h_casts_tried h_casts_kin h_casts_fitters h_notes_book h_notes_sort h_notes_one h_notes_other h_casts_plain_rows h_inn_house_creak h_inn_house_cold h_inn_house_one h_inn_house_other h_inn_house_how h_inn_house_falls h_inn_house_ways h_casts_trial_ways h_casts_trial_how h_casts_trial_passed h_casts_trial_dreamOf h_casts_trial_stateOf h_casts_trial_roomOf h_casts_trial_handOf h_casts_trial_awake h_casts_trial_thingIn h_casts_trial_full h_casts_trial_heardBy h_casts_trial_ways_steps h_inn_house_ways_steps h_casts_set_rows v_marked z.2.1 v_latestFault v_faultPlace v_inn_minutes v_inn_things v_inn_dreams v_inn_sleepers v_inn_listeners v_casts_count z.2.2.1 v_notes_count v_notes_book v_notes_sort v_notes_one z.2.2.2.1 v_notes_other z.2.2.2.2.1 v_inn_house_rooms v_inn_house_doors z.2.2.2.2.2.1 z.2.2.2.2.2.2.1 z.2.2.2.2.2.2.2.1 v_inn_house_how z.2.2.2.2.2.2.2.2.1 z.2.2.2.2.2.2.2.2.2.1 v_inn_house_one v_inn_house_other v_inn_thingIn z.2.2.2.2.2.2.2.2.2.2.1 v_inn_full z.2.2.2.2.2.2.2.2.2.2.2.1 z.2.2.2.2.2.2.2.2.2.2.2.2.1 v_casts_dreams z.2.2.2.2.2.2.2.2.2.2.2.2.2.1 z.2.2.2.2.2.2.2.2.2.2.2.2.2.2.1 v_inn_bed z.2.2.2.2.2.2.2.2.2.2.2.2.2.2.2.1 z.2.2.2.2.2.2.2.2.2.2.2.2.2.2.2.2.1 z.2.2.2.2.2.2.2.2.2.2.2.2.2.2.2.2.2.1 z.2.2.2.2.2.2.2.2.2.2.2.2.2.2.2.2.2.2.1 z.2.2.2.2.2.2.2.2.2.2.2.2.2.2.2.2.2.2.2.1 v_inn_states v_inn_house_creak v_inn_listensIn v_inn_house_ways_rooms v_inn_house_ways_steps v_inn_house_cold v_inn_house_falls z.2.2.2.2.2.2.2.2.2.2.2.2.2.2.2.2.2.2.2.2.1 z.2.2.2.2.2.2.2.2.2.2.2.2.2.2.2.2.2.2.2.2.2)) args s 0 0 A := ⟨_, rfl⟩
  rw [← hQ]
  unfold fX10_best at hf
  refine lv_aload_n (pc := 0) hx hb dX10_best_0 rfl (lv_at hl 0 rfl) ?_
  obtain ⟨r_1, hc_1, hf⟩ := bd1 hf
  refine r_dalVi (pc := 1) (ws' := (wX10_best E h h_reader h_inn h_chosen h_night h_marks h_notes h_casts h_inn_house h_inn_thingIn h_inn_full h_inn_states h_inn_bed h_inn_dreamOf h_inn_listensIn h_casts_trial h_casts_dreams h_casts_plain h_casts_set h_casts_tried h_casts_kin h_casts_fitters h_notes_book h_notes_sort h_notes_one h_notes_other h_casts_plain_rows h_inn_house_creak h_inn_house_cold h_inn_house_one h_inn_house_other h_inn_house_how h_inn_house_falls h_inn_house_ways h_casts_trial_ways h_casts_trial_how h_casts_trial_passed h_casts_trial_dreamOf h_casts_trial_stateOf h_casts_trial_roomOf h_casts_trial_handOf h_casts_trial_awake h_casts_trial_thingIn h_casts_trial_full h_casts_trial_heardBy h_casts_trial_ways_steps h_inn_house_ways_steps h_casts_set_rows v_marked v_refusal v_latestFault v_faultPlace v_inn_minutes v_inn_things v_inn_dreams v_inn_sleepers v_inn_listeners v_casts_count v_casts_fitting v_notes_count v_notes_book v_notes_sort v_notes_one v_casts_plain_rows v_notes_other v_casts_fitters v_inn_house_rooms v_inn_house_doors v_casts_tried v_casts_trial_setting v_casts_trial_been v_inn_house_how v_casts_trial_ways_rooms v_casts_trial_ways_steps v_inn_house_one v_inn_house_other v_inn_thingIn v_casts_trial_thingIn v_inn_full v_casts_trial_full v_casts_trial_heardBy v_casts_dreams v_casts_trial_dreamOf v_casts_trial_stateOf v_inn_bed v_casts_trial_roomOf v_casts_trial_handOf v_casts_trial_awake v_casts_trial_how v_casts_trial_passed v_inn_states v_inn_house_creak v_inn_listensIn v_inn_house_ways_rooms v_inn_house_ways_steps v_inn_house_cold v_inn_house_falls v_casts_set_rows v_casts_kin)) (As := []) (rest := []) C (ctX10_isTold l E h h_reader h_inn h_chosen h_night h_marks h_notes h_casts h_inn_house h_inn_thingIn h_inn_full h_inn_states h_inn_bed h_inn_dreamOf h_inn_listensIn v_marked v_refusal v_latestFault v_faultPlace v_inn_minutes v_inn_things v_inn_dreams v_inn_sleepers v_inn_listeners N r_1 hc_1) ml_X10_170 ⟨Nat.le_of_ble_eq_true rfl, Nat.le_of_ble_eq_true rfl⟩ hP hD hS 0 rfl rfl rfl [0, 1] [43, 44, 2, 3, 4, 5, 6, 7, 8, 9, 10, 11, 12, 13, 14, 15, 16, 17, 18, 19, 20, 21, 22, 23, 24, 25, 26, 27, 28, 29, 30, 31, 32, 33, 34, 35, 36, 37, 38, 39, 40, 41, 42] 43 rfl rfl rfl rfl rfl rfl rfl hl.1 rfl (Nat.le_of_ble_eq_true rfl) ⟨Nat.zero_le _, Nat.zero_le _⟩ dX10_best_1 ?_
  clear hP hD hS; intro H locs hP hD hS
  refine lv_if_ne (pc := 4) (tgt := 13) hx hb dX10_best_4 (by decide) (fun c_4 => ?_) (fun c_4 => ?_)
  · replace hf := it_f c_4 hf
    refine lv_aload_n (pc := 13) hx hb dX10_best_13 rfl (lv_at hl 0 rfl) ?_
    refine r_get (pc := 14) C hP 0 rfl fl_X10_50 rfl dX10_best_14 ?_
    refine lv_aload_n (pc := 17) hx hb dX10_best_17 rfl (lv_at hl 0 rfl) ?_
    refine r_get (pc := 18) C hP 0 rfl fl_X10_43 rfl dX10_best_18 ?_
    refine lv_iconst (pc := 21) (v := 3) hx hb dX10_best_21 (by decide) ?_
    obtain ⟨r_22, v_casts_fitting_22, v_casts_fitters_22, hc_22, hf⟩ := bd3 hf
    refine r_dalVi (pc := 22) (ws' := (wX10_best E h h_reader h_inn h_chosen h_night h_marks h_notes h_casts h_inn_house h_inn_thingIn h_inn_full h_inn_states h_inn_bed h_inn_dreamOf h_inn_listensIn h_casts_trial h_casts_dreams h_casts_plain h_casts_set h_casts_tried h_casts_kin h_casts_fitters h_notes_book h_notes_sort h_notes_one h_notes_other h_casts_plain_rows h_inn_house_creak h_inn_house_cold h_inn_house_one h_inn_house_other h_inn_house_how h_inn_house_falls h_inn_house_ways h_casts_trial_ways h_casts_trial_how h_casts_trial_passed h_casts_trial_dreamOf h_casts_trial_stateOf h_casts_trial_roomOf h_casts_trial_handOf h_casts_trial_awake h_casts_trial_thingIn h_casts_trial_full h_casts_trial_heardBy h_casts_trial_ways_steps h_inn_house_ways_steps h_casts_set_rows v_marked v_refusal v_latestFault v_faultPlace v_inn_minutes v_inn_things v_inn_dreams v_inn_sleepers v_inn_listeners v_casts_count v_casts_fitting_22 v_notes_count v_notes_book v_notes_sort v_notes_one v_casts_plain_rows v_notes_other v_casts_fitters_22 v_inn_house_rooms v_inn_house_doors v_casts_tried v_casts_trial_setting v_casts_trial_been v_inn_house_how v_casts_trial_ways_rooms v_casts_trial_ways_steps v_inn_house_one v_inn_house_other v_inn_thingIn v_casts_trial_thingIn v_inn_full v_casts_trial_full v_casts_trial_heardBy v_casts_dreams v_casts_trial_dreamOf v_casts_trial_stateOf v_inn_bed v_casts_trial_roomOf v_casts_trial_handOf v_casts_trial_awake v_casts_trial_how v_casts_trial_passed v_inn_states v_inn_house_creak v_inn_listensIn v_inn_house_ways_rooms v_inn_house_ways_steps v_inn_house_cold v_inn_house_falls v_casts_set_rows v_casts_kin)) (As := [.ref h_notes, .int 3]) (rest := []) C (ctX0_gather l E h_casts h_casts_trial h_inn h_casts_dreams h_casts_plain h_casts_set h_casts_tried h_casts_kin h_casts_fitters h_notes h_notes_book h_notes_sort h_notes_one h_notes_other h_casts_plain_rows v_casts_count v_casts_fitting v_notes_count v_notes_book v_notes_sort v_notes_one v_casts_plain_rows v_notes_other v_casts_fitters N 3 (r_22, v_casts_fitting_22, v_casts_fitters_22) hc_22) ml_X10_262 ⟨Nat.le_of_ble_eq_true rfl, Nat.le_of_ble_eq_true rfl⟩ hP hD hS 2 rfl rfl rfl [2, 3, 4, 5, 6, 7, 8, 9, 10] [0, 1, 43, 44, 45, 46, 47, 48, 49, 50, 51, 11, 12, 13, 14, 15, 16, 17, 18, 19, 20, 21, 22, 23, 24, 25, 26, 27, 28, 29, 30, 31, 32, 33, 34, 35, 36, 37, 38, 39, 40, 41, 42] 43 rfl rfl rfl rfl rfl rfl rfl hl.1 rfl (Nat.le_of_ble_eq_true rfl) ⟨Nat.zero_le _, Nat.zero_le _⟩ dX10_best_22 ?_
    clear hP hD hS; intro H locs hP hD hS
    refine lv_if_ne (pc := 25) (tgt := 35) hx hb dX10_best_25 (by decide) (fun c_25 => ?_) (fun c_25 => ?_)
    · replace hf := it_f c_25 hf
      refine lv_aload_n (pc := 35) hx hb dX10_best_35 rfl (lv_at hl 0 rfl) ?_
      refine r_get (pc := 36) C hP 0 rfl fl_X10_50 rfl dX10_best_36 ?_
      refine lv_iconst (pc := 39) (v := 0) hx hb dX10_best_39 (by decide) ?_
      refine lv_aload_n (pc := 40) hx hb dX10_best_40 rfl (lv_at hl 0 rfl) ?_
      refine r_get (pc := 41) C hP 0 rfl fl_X10_19 rfl dX10_best_41 ?_
      obtain ⟨r_44, hc_44, hf⟩ := bd1 hf
      refine r_dalVi (pc := 44) (ws' := (wX10_best E h h_reader h_inn h_chosen h_night h_marks h_notes h_casts h_inn_house h_inn_thingIn h_inn_full h_inn_states h_inn_bed h_inn_dreamOf h_inn_listensIn h_casts_trial h_casts_dreams h_casts_plain h_casts_set h_casts_tried h_casts_kin h_casts_fitters h_notes_book h_notes_sort h_notes_one h_notes_other h_casts_plain_rows h_inn_house_creak h_inn_house_cold h_inn_house_one h_inn_house_other h_inn_house_how h_inn_house_falls h_inn_house_ways h_casts_trial_ways h_casts_trial_how h_casts_trial_passed h_casts_trial_dreamOf h_casts_trial_stateOf h_casts_trial_roomOf h_casts_trial_handOf h_casts_trial_awake h_casts_trial_thingIn h_casts_trial_full h_casts_trial_heardBy h_casts_trial_ways_steps h_inn_house_ways_steps h_casts_set_rows v_marked v_refusal v_latestFault v_faultPlace v_inn_minutes v_inn_things v_inn_dreams v_inn_sleepers v_inn_listeners v_casts_count v_casts_fitting_22 v_notes_count v_notes_book v_notes_sort v_notes_one v_casts_plain_rows v_notes_other v_casts_fitters_22 v_inn_house_rooms v_inn_house_doors v_casts_tried v_casts_trial_setting v_casts_trial_been v_inn_house_how v_casts_trial_ways_rooms v_casts_trial_ways_steps v_inn_house_one v_inn_house_other v_inn_thingIn v_casts_trial_thingIn v_inn_full v_casts_trial_full v_casts_trial_heardBy v_casts_dreams v_casts_trial_dreamOf v_casts_trial_stateOf v_inn_bed v_casts_trial_roomOf v_casts_trial_handOf v_casts_trial_awake v_casts_trial_how v_casts_trial_passed v_inn_states v_inn_house_creak v_inn_listensIn v_inn_house_ways_rooms v_inn_house_ways_steps v_inn_house_cold v_inn_house_falls v_casts_set_rows v_casts_kin)) (As := []) (rest := [.int 0, .ref h_casts]) C (ctX2_settings l E h_inn h_inn_house h_inn_thingIn h_inn_full h_inn_states h_inn_bed h_inn_dreamOf h_inn_listensIn h_inn_house_creak h_inn_house_cold h_inn_house_one h_inn_house_other h_inn_house_how h_inn_house_falls h_inn_house_ways v_inn_minutes v_inn_things v_inn_dreams v_inn_sleepers v_inn_listeners v_inn_house_rooms v_inn_house_doors N r_44 hc_44) ml_X10_275 ⟨Nat.le_of_ble_eq_true rfl, Nat.le_of_ble_eq_true rfl⟩ hP hD hS 1 rfl rfl rfl [1, 11] [0, 43, 2, 3, 4, 5, 6, 7, 8, 9, 10, 44, 12, 13, 14, 15, 16, 17, 18, 19, 20, 21, 22, 23, 24, 25, 26, 27, 28, 29, 30, 31, 32, 33, 34, 35, 36, 37, 38, 39, 40, 41, 42] 43 rfl rfl rfl rfl rfl rfl rfl hl.1 rfl (Nat.le_of_ble_eq_true rfl) ⟨Nat.zero_le _, Nat.zero_le _⟩ dX10_best_44 ?_
      clear hP hD hS; intro H locs hP hD hS
      refine lv_iconst (pc := 47) (v := 1) hx hb dX10_best_47 (by decide) ?_
      refine lv_isub (pc := 48) hx hb dX10_best_48 ?_
      obtain ⟨v_casts_tried_49, v_casts_trial_setting_49, v_casts_trial_been_49, v_casts_trial_ways_rooms_49, v_casts_trial_ways_steps_49, v_casts_trial_thingIn_49, v_casts_trial_full_49, v_casts_trial_heardBy_49, v_casts_trial_dreamOf_49, v_casts_trial_stateOf_49, v_casts_trial_roomOf_49, v_casts_trial_handOf_49, v_casts_trial_awake_49, v_casts_trial_how_49, v_casts_trial_passed_49, v_casts_set_rows_49, v_casts_kin_49, v_casts_plain_rows_49, hc_49, hf⟩ := bd18 hf
      refine r_dalVv (pc := 49) (ws' := (wX10_best E h h_reader h_inn h_chosen h_night h_marks h_notes h_casts h_inn_house h_inn_thingIn h_inn_full h_inn_states h_inn_bed h_inn_dreamOf h_inn_listensIn h_casts_trial h_casts_dreams h_casts_plain h_casts_set h_casts_tried h_casts_kin h_casts_fitters h_notes_book h_notes_sort h_notes_one h_notes_other h_casts_plain_rows h_inn_house_creak h_inn_house_cold h_inn_house_one h_inn_house_other h_inn_house_how h_inn_house_falls h_inn_house_ways h_casts_trial_ways h_casts_trial_how h_casts_trial_passed h_casts_trial_dreamOf h_casts_trial_stateOf h_casts_trial_roomOf h_casts_trial_handOf h_casts_trial_awake h_casts_trial_thingIn h_casts_trial_full h_casts_trial_heardBy h_casts_trial_ways_steps h_inn_house_ways_steps h_casts_set_rows v_marked v_refusal v_latestFault v_faultPlace v_inn_minutes v_inn_things v_inn_dreams v_inn_sleepers v_inn_listeners v_casts_count v_casts_fitting_22 v_notes_count v_notes_book v_notes_sort v_notes_one v_casts_plain_rows_49 v_notes_other v_casts_fitters_22 v_inn_house_rooms v_inn_house_doors v_casts_tried_49 v_casts_trial_setting_49 v_casts_trial_been_49 v_inn_house_how v_casts_trial_ways_rooms_49 v_casts_trial_ways_steps_49 v_inn_house_one v_inn_house_other v_inn_thingIn v_casts_trial_thingIn_49 v_inn_full v_casts_trial_full_49 v_casts_trial_heardBy_49 v_casts_dreams v_casts_trial_dreamOf_49 v_casts_trial_stateOf_49 v_inn_bed v_casts_trial_roomOf_49 v_casts_trial_handOf_49 v_casts_trial_awake_49 v_casts_trial_how_49 v_casts_trial_passed_49 v_inn_states v_inn_house_creak v_inn_listensIn v_inn_house_ways_rooms v_inn_house_ways_steps v_inn_house_cold v_inn_house_falls v_casts_set_rows_49 v_casts_kin_49)) (As := [.int 0, .int (r_44 - 1)]) (rest := []) C (ctX0_tryOuts l E h_casts h_casts_trial h_inn h_casts_dreams h_casts_plain h_casts_set h_casts_tried h_casts_kin h_casts_fitters h_casts_trial_ways h_casts_trial_how h_casts_trial_passed h_casts_trial_dreamOf h_casts_trial_stateOf h_casts_trial_roomOf h_casts_trial_handOf h_casts_trial_awake h_casts_trial_thingIn h_casts_trial_full h_casts_trial_heardBy h_inn_house h_inn_thingIn h_inn_full h_inn_states h_inn_bed h_inn_dreamOf h_inn_listensIn h_inn_house_creak h_inn_house_cold h_inn_house_one h_inn_house_other h_inn_house_how h_inn_house_falls h_inn_house_ways h_casts_trial_ways_steps h_inn_house_ways_steps h_casts_set_rows h_casts_plain_rows v_casts_count v_casts_fitting_22 v_casts_tried v_casts_trial_setting v_casts_trial_been v_inn_minutes v_inn_things v_inn_dreams v_inn_sleepers v_inn_listeners v_inn_house_rooms v_inn_house_doors v_inn_house_how v_casts_trial_ways_rooms v_casts_trial_ways_steps v_inn_house_one v_inn_house_other v_inn_thingIn v_casts_trial_thingIn v_inn_full v_casts_trial_full v_casts_trial_heardBy v_casts_dreams v_casts_trial_dreamOf v_casts_trial_stateOf v_inn_bed v_casts_trial_roomOf v_casts_trial_handOf v_casts_trial_awake v_casts_trial_how v_casts_trial_passed v_inn_states v_inn_house_creak v_inn_listensIn v_inn_house_ways_rooms v_inn_house_ways_steps v_inn_house_cold v_inn_house_falls v_casts_set_rows v_casts_kin v_casts_plain_rows N 0 (r_44 - 1) (v_casts_tried_49, v_casts_trial_setting_49, v_casts_trial_been_49, v_casts_trial_ways_rooms_49, v_casts_trial_ways_steps_49, v_casts_trial_thingIn_49, v_casts_trial_full_49, v_casts_trial_heardBy_49, v_casts_trial_dreamOf_49, v_casts_trial_stateOf_49, v_casts_trial_roomOf_49, v_casts_trial_handOf_49, v_casts_trial_awake_49, v_casts_trial_how_49, v_casts_trial_passed_49, v_casts_set_rows_49, v_casts_kin_49, v_casts_plain_rows_49) hc_49) ml_X10_88 ⟨Nat.le_of_ble_eq_true rfl, Nat.le_of_ble_eq_true rfl⟩ hP hD hS 2 rfl rfl rfl [2, 12, 13, 1, 11, 14, 15, 16, 17, 18, 19, 20, 21, 22, 23, 24, 25, 26, 27, 28, 29, 30, 31, 32, 33, 34, 35, 36, 37, 38, 39, 40, 41, 42, 7, 8] [0, 46, 43, 3, 4, 5, 6, 77, 78, 9, 10, 47, 44, 45, 48, 49, 50, 51, 52, 53, 54, 55, 56, 57, 58, 59, 60, 61, 62, 63, 64, 65, 66, 67, 68, 69, 70, 71, 72, 73, 74, 75, 76] 43 rfl rfl rfl rfl rfl rfl rfl hl.1 rfl (Nat.le_of_ble_eq_true rfl) ⟨Nat.zero_le _, Nat.zero_le _⟩ dX10_best_49 ?_
      clear hP hD hS; intro H locs hP hD hS
      refine lv_aload_n (pc := 52) hx hb dX10_best_52 rfl (lv_at hl 0 rfl) ?_
      refine lv_aload_n (pc := 53) hx hb dX10_best_53 rfl (lv_at hl 0 rfl) ?_
      refine r_get (pc := 54) C hP 0 rfl fl_X10_50 rfl dX10_best_54 ?_
      obtain ⟨r_57, hc_57, hf⟩ := bd1 hf
      refine r_dalVi (pc := 57) (ws' := (wX10_best E h h_reader h_inn h_chosen h_night h_marks h_notes h_casts h_inn_house h_inn_thingIn h_inn_full h_inn_states h_inn_bed h_inn_dreamOf h_inn_listensIn h_casts_trial h_casts_dreams h_casts_plain h_casts_set h_casts_tried h_casts_kin h_casts_fitters h_notes_book h_notes_sort h_notes_one h_notes_other h_casts_plain_rows h_inn_house_creak h_inn_house_cold h_inn_house_one h_inn_house_other h_inn_house_how h_inn_house_falls h_inn_house_ways h_casts_trial_ways h_casts_trial_how h_casts_trial_passed h_casts_trial_dreamOf h_casts_trial_stateOf h_casts_trial_roomOf h_casts_trial_handOf h_casts_trial_awake h_casts_trial_thingIn h_casts_trial_full h_casts_trial_heardBy h_casts_trial_ways_steps h_inn_house_ways_steps h_casts_set_rows v_marked v_refusal v_latestFault v_faultPlace v_inn_minutes v_inn_things v_inn_dreams v_inn_sleepers v_inn_listeners v_casts_count v_casts_fitting_22 v_notes_count v_notes_book v_notes_sort v_notes_one v_casts_plain_rows_49 v_notes_other v_casts_fitters_22 v_inn_house_rooms v_inn_house_doors v_casts_tried_49 v_casts_trial_setting_49 v_casts_trial_been_49 v_inn_house_how v_casts_trial_ways_rooms_49 v_casts_trial_ways_steps_49 v_inn_house_one v_inn_house_other v_inn_thingIn v_casts_trial_thingIn_49 v_inn_full v_casts_trial_full_49 v_casts_trial_heardBy_49 v_casts_dreams v_casts_trial_dreamOf_49 v_casts_trial_stateOf_49 v_inn_bed v_casts_trial_roomOf_49 v_casts_trial_handOf_49 v_casts_trial_awake_49 v_casts_trial_how_49 v_casts_trial_passed_49 v_inn_states v_inn_house_creak v_inn_listensIn v_inn_house_ways_rooms v_inn_house_ways_steps v_inn_house_cold v_inn_house_falls v_casts_set_rows_49 v_casts_kin_49)) (As := []) (rest := [.ref h]) C (ctX0_bestSetting l E h_casts h_casts_trial h_inn h_casts_dreams h_casts_plain h_casts_set h_casts_tried h_casts_kin h_casts_fitters h_inn_house h_inn_thingIn h_inn_full h_inn_states h_inn_bed h_inn_dreamOf h_inn_listensIn h_inn_house_creak h_inn_house_cold h_inn_house_one h_inn_house_other h_inn_house_how h_inn_house_falls h_inn_house_ways v_casts_count v_casts_fitting_22 v_casts_fitters_22 v_casts_kin_49 v_inn_minutes v_inn_things v_inn_dreams v_inn_sleepers v_inn_listeners v_inn_house_rooms v_inn_house_doors N r_57 hc_57) ml_X10_279 ⟨Nat.le_of_ble_eq_true rfl, Nat.le_of_ble_eq_true rfl⟩ hP hD hS 2 rfl rfl rfl [2, 10, 42, 1, 11] [0, 46, 43, 3, 4, 5, 6, 7, 8, 9, 44, 47, 12, 13, 14, 15, 16, 17, 18, 19, 20, 21, 22, 23, 24, 25, 26, 27, 28, 29, 30, 31, 32, 33, 34, 35, 36, 37, 38, 39, 40, 41, 45] 43 rfl rfl rfl rfl rfl rfl rfl hl.1 rfl (Nat.le_of_ble_eq_true rfl) ⟨Nat.zero_le _, Nat.zero_le _⟩ dX10_best_57 ?_
      clear hP hD hS; intro H locs hP hD hS
      obtain ⟨r_60, v_refusal_60, hc_60, hf⟩ := bd2 hf
      refine r_dalVi (pc := 60) (ws' := (wX10_best E h h_reader h_inn h_chosen h_night h_marks h_notes h_casts h_inn_house h_inn_thingIn h_inn_full h_inn_states h_inn_bed h_inn_dreamOf h_inn_listensIn h_casts_trial h_casts_dreams h_casts_plain h_casts_set h_casts_tried h_casts_kin h_casts_fitters h_notes_book h_notes_sort h_notes_one h_notes_other h_casts_plain_rows h_inn_house_creak h_inn_house_cold h_inn_house_one h_inn_house_other h_inn_house_how h_inn_house_falls h_inn_house_ways h_casts_trial_ways h_casts_trial_how h_casts_trial_passed h_casts_trial_dreamOf h_casts_trial_stateOf h_casts_trial_roomOf h_casts_trial_handOf h_casts_trial_awake h_casts_trial_thingIn h_casts_trial_full h_casts_trial_heardBy h_casts_trial_ways_steps h_inn_house_ways_steps h_casts_set_rows v_marked v_refusal_60 v_latestFault v_faultPlace v_inn_minutes v_inn_things v_inn_dreams v_inn_sleepers v_inn_listeners v_casts_count v_casts_fitting_22 v_notes_count v_notes_book v_notes_sort v_notes_one v_casts_plain_rows_49 v_notes_other v_casts_fitters_22 v_inn_house_rooms v_inn_house_doors v_casts_tried_49 v_casts_trial_setting_49 v_casts_trial_been_49 v_inn_house_how v_casts_trial_ways_rooms_49 v_casts_trial_ways_steps_49 v_inn_house_one v_inn_house_other v_inn_thingIn v_casts_trial_thingIn_49 v_inn_full v_casts_trial_full_49 v_casts_trial_heardBy_49 v_casts_dreams v_casts_trial_dreamOf_49 v_casts_trial_stateOf_49 v_inn_bed v_casts_trial_roomOf_49 v_casts_trial_handOf_49 v_casts_trial_awake_49 v_casts_trial_how_49 v_casts_trial_passed_49 v_inn_states v_inn_house_creak v_inn_listensIn v_inn_house_ways_rooms v_inn_house_ways_steps v_inn_house_cold v_inn_house_falls v_casts_set_rows_49 v_casts_kin_49)) (As := [.int r_57]) (rest := []) C (ctX10_answer l E h h_reader h_inn h_chosen h_night h_marks h_notes h_casts v_marked v_refusal v_latestFault v_faultPlace N r_57 (r_60, v_refusal_60) hc_60) ml_X10_95 ⟨Nat.le_of_ble_eq_true rfl, Nat.le_of_ble_eq_true rfl⟩ hP hD hS 0 rfl rfl rfl [0] [43, 1, 2, 3, 4, 5, 6, 7, 8, 9, 10, 11, 12, 13, 14, 15, 16, 17, 18, 19, 20, 21, 22, 23, 24, 25, 26, 27, 28, 29, 30, 31, 32, 33, 34, 35, 36, 37, 38, 39, 40, 41, 42] 43 rfl rfl rfl rfl rfl rfl rfl hl.1 rfl (Nat.le_of_ble_eq_true rfl) ⟨Nat.zero_le _, Nat.zero_le _⟩ dX10_best_60 ?_
      clear hP hD hS; intro H locs hP hD hS
      cases hf
      rw [hQ]
      exact r_iret C hr hP hD hS rfl dX10_best_63
    · replace hf := it_t c_25 hf
      refine lv_aload_n (pc := 28) hx hb dX10_best_28 rfl (lv_at hl 0 rfl) ?_
      refine lv_bipush (pc := 29) (v := 6) hx hb dX10_best_29 (by decide) ?_
      obtain ⟨r_31, v_refusal_31, hc_31, hf⟩ := bd2 hf
      refine r_dalVi (pc := 31) (ws' := (wX10_best E h h_reader h_inn h_chosen h_night h_marks h_notes h_casts h_inn_house h_inn_thingIn h_inn_full h_inn_states h_inn_bed h_inn_dreamOf h_inn_listensIn h_casts_trial h_casts_dreams h_casts_plain h_casts_set h_casts_tried h_casts_kin h_casts_fitters h_notes_book h_notes_sort h_notes_one h_notes_other h_casts_plain_rows h_inn_house_creak h_inn_house_cold h_inn_house_one h_inn_house_other h_inn_house_how h_inn_house_falls h_inn_house_ways h_casts_trial_ways h_casts_trial_how h_casts_trial_passed h_casts_trial_dreamOf h_casts_trial_stateOf h_casts_trial_roomOf h_casts_trial_handOf h_casts_trial_awake h_casts_trial_thingIn h_casts_trial_full h_casts_trial_heardBy h_casts_trial_ways_steps h_inn_house_ways_steps h_casts_set_rows v_marked v_refusal_31 v_latestFault v_faultPlace v_inn_minutes v_inn_things v_inn_dreams v_inn_sleepers v_inn_listeners v_casts_count v_casts_fitting_22 v_notes_count v_notes_book v_notes_sort v_notes_one v_casts_plain_rows v_notes_other v_casts_fitters_22 v_inn_house_rooms v_inn_house_doors v_casts_tried v_casts_trial_setting v_casts_trial_been v_inn_house_how v_casts_trial_ways_rooms v_casts_trial_ways_steps v_inn_house_one v_inn_house_other v_inn_thingIn v_casts_trial_thingIn v_inn_full v_casts_trial_full v_casts_trial_heardBy v_casts_dreams v_casts_trial_dreamOf v_casts_trial_stateOf v_inn_bed v_casts_trial_roomOf v_casts_trial_handOf v_casts_trial_awake v_casts_trial_how v_casts_trial_passed v_inn_states v_inn_house_creak v_inn_listensIn v_inn_house_ways_rooms v_inn_house_ways_steps v_inn_house_cold v_inn_house_falls v_casts_set_rows v_casts_kin)) (As := [.int 6]) (rest := []) C (ctX10_refuse l E h h_reader h_inn h_chosen h_night h_marks h_notes h_casts v_marked v_refusal v_latestFault v_faultPlace N 6 (r_31, v_refusal_31) hc_31) ml_X10_68 ⟨Nat.le_of_ble_eq_true rfl, Nat.le_of_ble_eq_true rfl⟩ hP hD hS 0 rfl rfl rfl [0] [43, 1, 2, 3, 4, 5, 6, 7, 8, 9, 10, 11, 12, 13, 14, 15, 16, 17, 18, 19, 20, 21, 22, 23, 24, 25, 26, 27, 28, 29, 30, 31, 32, 33, 34, 35, 36, 37, 38, 39, 40, 41, 42] 43 rfl rfl rfl rfl rfl rfl rfl hl.1 rfl (Nat.le_of_ble_eq_true rfl) ⟨Nat.zero_le _, Nat.zero_le _⟩ dX10_best_31 ?_
      clear hP hD hS; intro H locs hP hD hS
      cases hf
      rw [hQ]
      exact r_iret C hr hP hD hS rfl dX10_best_34
  · replace hf := it_t c_4 hf
    refine lv_aload_n (pc := 7) hx hb dX10_best_7 rfl (lv_at hl 0 rfl) ?_
    refine lv_iconst (pc := 8) (v := 1) hx hb dX10_best_8 (by decide) ?_
    obtain ⟨r_9, v_refusal_9, hc_9, hf⟩ := bd2 hf
    refine r_dalVi (pc := 9) (ws' := (wX10_best E h h_reader h_inn h_chosen h_night h_marks h_notes h_casts h_inn_house h_inn_thingIn h_inn_full h_inn_states h_inn_bed h_inn_dreamOf h_inn_listensIn h_casts_trial h_casts_dreams h_casts_plain h_casts_set h_casts_tried h_casts_kin h_casts_fitters h_notes_book h_notes_sort h_notes_one h_notes_other h_casts_plain_rows h_inn_house_creak h_inn_house_cold h_inn_house_one h_inn_house_other h_inn_house_how h_inn_house_falls h_inn_house_ways h_casts_trial_ways h_casts_trial_how h_casts_trial_passed h_casts_trial_dreamOf h_casts_trial_stateOf h_casts_trial_roomOf h_casts_trial_handOf h_casts_trial_awake h_casts_trial_thingIn h_casts_trial_full h_casts_trial_heardBy h_casts_trial_ways_steps h_inn_house_ways_steps h_casts_set_rows v_marked v_refusal_9 v_latestFault v_faultPlace v_inn_minutes v_inn_things v_inn_dreams v_inn_sleepers v_inn_listeners v_casts_count v_casts_fitting v_notes_count v_notes_book v_notes_sort v_notes_one v_casts_plain_rows v_notes_other v_casts_fitters v_inn_house_rooms v_inn_house_doors v_casts_tried v_casts_trial_setting v_casts_trial_been v_inn_house_how v_casts_trial_ways_rooms v_casts_trial_ways_steps v_inn_house_one v_inn_house_other v_inn_thingIn v_casts_trial_thingIn v_inn_full v_casts_trial_full v_casts_trial_heardBy v_casts_dreams v_casts_trial_dreamOf v_casts_trial_stateOf v_inn_bed v_casts_trial_roomOf v_casts_trial_handOf v_casts_trial_awake v_casts_trial_how v_casts_trial_passed v_inn_states v_inn_house_creak v_inn_listensIn v_inn_house_ways_rooms v_inn_house_ways_steps v_inn_house_cold v_inn_house_falls v_casts_set_rows v_casts_kin)) (As := [.int 1]) (rest := []) C (ctX10_refuse l E h h_reader h_inn h_chosen h_night h_marks h_notes h_casts v_marked v_refusal v_latestFault v_faultPlace N 1 (r_9, v_refusal_9) hc_9) ml_X10_68 ⟨Nat.le_of_ble_eq_true rfl, Nat.le_of_ble_eq_true rfl⟩ hP hD hS 0 rfl rfl rfl [0] [43, 1, 2, 3, 4, 5, 6, 7, 8, 9, 10, 11, 12, 13, 14, 15, 16, 17, 18, 19, 20, 21, 22, 23, 24, 25, 26, 27, 28, 29, 30, 31, 32, 33, 34, 35, 36, 37, 38, 39, 40, 41, 42] 43 rfl rfl rfl rfl rfl rfl rfl hl.1 rfl (Nat.le_of_ble_eq_true rfl) ⟨Nat.zero_le _, Nat.zero_le _⟩ dX10_best_9 ?_
    clear hP hD hS; intro H locs hP hD hS
    cases hf
    rw [hQ]
    exact r_iret C hr hP hD hS rfl dX10_best_12
def wX10_told (E : EN) (h h_reader h_inn h_chosen h_night h_marks h_notes h_casts h_inn_house h_inn_thingIn h_inn_full h_inn_states h_inn_bed h_inn_dreamOf h_inn_listensIn h_inn_house_creak h_inn_house_cold h_inn_house_one h_inn_house_other h_inn_house_how h_inn_house_falls h_inn_house_ways h_casts_trial h_casts_dreams h_casts_plain h_casts_set h_casts_tried h_casts_kin h_casts_fitters h_notes_book h_notes_sort h_notes_one h_notes_other h_casts_plain_rows h_casts_trial_ways h_casts_trial_how h_casts_trial_passed h_casts_trial_dreamOf h_casts_trial_stateOf h_casts_trial_roomOf h_casts_trial_handOf h_casts_trial_awake h_casts_trial_thingIn h_casts_trial_full h_casts_trial_heardBy h_casts_trial_ways_steps h_inn_house_ways_steps h_casts_set_rows : Nat) (v_marked : Int32) (v_refusal : Int32) (v_latestFault : Int32) (v_faultPlace : Int32) (v_inn_minutes : Int32) (v_inn_things : Int32) (v_inn_dreams : Int32) (v_inn_sleepers : Int32) (v_inn_listeners : Int32) (v_inn_house_rooms : Int32) (v_inn_house_doors : Int32) (v_casts_count : Int32) (v_casts_fitting : Int32) (v_notes_count : Int32) (v_notes_book : Nat → Int32) (v_notes_sort : Nat → Int32) (v_notes_one : Nat → Int32) (v_casts_plain_rows : Nat → Int64) (v_notes_other : Nat → Int32) (v_casts_fitters : Nat → Int32) (v_casts_tried : Nat → Int32) (v_casts_trial_setting : Int32) (v_casts_trial_been : Int32) (v_inn_house_how : Nat → Int32) (v_casts_trial_ways_rooms : Int32) (v_casts_trial_ways_steps : Nat → Int32) (v_inn_house_one : Nat → Int32) (v_inn_house_other : Nat → Int32) (v_inn_thingIn : Nat → Int32) (v_casts_trial_thingIn : Nat → Int32) (v_inn_full : Nat → Int32) (v_casts_trial_full : Nat → Int32) (v_casts_trial_heardBy : Nat → Int64) (v_casts_dreams : Nat → Int32) (v_casts_trial_dreamOf : Nat → Int32) (v_casts_trial_stateOf : Nat → Int32) (v_inn_bed : Nat → Int32) (v_casts_trial_roomOf : Nat → Int32) (v_casts_trial_handOf : Nat → Int32) (v_casts_trial_awake : Nat → Int32) (v_casts_trial_how : Nat → Int32) (v_casts_trial_passed : Nat → Int32) (v_inn_states : Nat → Int32) (v_inn_house_creak : Nat → Int32) (v_inn_listensIn : Nat → Int32) (v_inn_house_ways_rooms : Int32) (v_inn_house_ways_steps : Nat → Int32) (v_inn_house_cold : Nat → Int32) (v_inn_house_falls : Nat → Int32) (v_casts_set_rows : Nat → Int64) (v_casts_kin : Nat → Int32) : va_W := [(h, .inr (9, [.ref h_reader, .ref h_inn, .ref h_chosen, .ref h_night, .ref h_marks, .int v_marked, .ref h_notes, .ref h_casts, .int v_refusal, .int v_latestFault, .int v_faultPlace])), (h_inn, .inr (2, [.ref h_inn_house, .int v_inn_minutes, .int v_inn_things, .ref h_inn_thingIn, .ref h_inn_full, .int v_inn_dreams, .ref h_inn_states, .int v_inn_sleepers, .ref h_inn_bed, .ref h_inn_dreamOf, .int v_inn_listeners, .ref h_inn_listensIn])), (h_inn_house, .inr (1, [.int v_inn_house_rooms, .ref h_inn_house_creak, .ref h_inn_house_cold, .int v_inn_house_doors, .ref h_inn_house_one, .ref h_inn_house_other, .ref h_inn_house_how, .ref h_inn_house_falls, .ref h_inn_house_ways])), (h_casts, .inr (0, [.ref h_casts_trial, .ref h_inn, .int v_casts_count, .ref h_casts_dreams, .ref h_casts_plain, .ref h_casts_set, .ref h_casts_tried, .ref h_casts_kin, .int v_casts_fitting, .ref h_casts_fitters])), (h_notes, .inr (5, [.ref h_notes_book, .ref h_notes_sort, .ref h_notes_one, .ref h_notes_other, .int v_notes_count])), (h_notes_book, aI E 20 v_notes_book), (h_notes_sort, aI E 20 v_notes_sort), (h_notes_one, aI E 20 v_notes_one), (h_casts_plain, .inr (3, [.ref h_casts_plain_rows])), (h_casts_plain_rows, aJ E 256 v_casts_plain_rows), (h_notes_other, aI E 20 v_notes_other), (h_casts_fitters, aI E 64 v_casts_fitters), (h_casts_tried, aZ E 21 v_casts_tried), (h_casts_trial, .inr (4, [.ref h_inn, .int v_casts_trial_setting, .int v_casts_trial_been, .ref h_casts_trial_ways, .ref h_casts_trial_how, .ref h_casts_trial_passed, .ref h_casts_trial_dreamOf, .ref h_casts_trial_stateOf, .ref h_casts_trial_roomOf, .ref h_casts_trial_handOf, .ref h_casts_trial_awake, .ref h_casts_trial_thingIn, .ref h_casts_trial_full, .ref h_casts_trial_heardBy])), (h_inn_house_how, aI E 10 v_inn_house_how), (h_casts_trial_ways, .inr (8, [.ref h_casts_trial_ways_steps, .int v_casts_trial_ways_rooms])), (h_casts_trial_ways_steps, aI E 64 v_casts_trial_ways_steps), (h_inn_house_one, aI E 10 v_inn_house_one), (h_inn_house_other, aI E 10 v_inn_house_other), (h_inn_thingIn, aI E 4 v_inn_thingIn), (h_casts_trial_thingIn, aI E 4 v_casts_trial_thingIn), (h_inn_full, aZ E 4 v_inn_full), (h_casts_trial_full, aZ E 4 v_casts_trial_full), (h_casts_trial_heardBy, aJ E 3 v_casts_trial_heardBy), (h_casts_dreams, aI E 192 v_casts_dreams), (h_casts_trial_dreamOf, aI E 3 v_casts_trial_dreamOf), (h_casts_trial_stateOf, aI E 3 v_casts_trial_stateOf), (h_inn_bed, aI E 3 v_inn_bed), (h_casts_trial_roomOf, aI E 3 v_casts_trial_roomOf), (h_casts_trial_handOf, aI E 3 v_casts_trial_handOf), (h_casts_trial_awake, aZ E 3 v_casts_trial_awake), (h_casts_trial_how, aI E 10 v_casts_trial_how), (h_casts_trial_passed, aI E 10 v_casts_trial_passed), (h_inn_states, aI E 64 v_inn_states), (h_inn_house_creak, aI E 8 v_inn_house_creak), (h_inn_listensIn, aI E 3 v_inn_listensIn), (h_inn_house_ways, .inr (8, [.ref h_inn_house_ways_steps, .int v_inn_house_ways_rooms])), (h_inn_house_ways_steps, aI E 64 v_inn_house_ways_steps), (h_inn_house_cold, aZ E 8 v_inn_house_cold), (h_inn_house_falls, aZ E 10 v_inn_house_falls), (h_casts_set, .inr (3, [.ref h_casts_set_rows])), (h_casts_set_rows, aJ E 256 v_casts_set_rows), (h_casts_kin, aI E 1344 v_casts_kin)]
def fX10_told (N : Nat) (p0 : Int32) (p1 : Int32) (v_inn_minutes : Int32) (v_inn_things : Int32) (v_inn_sleepers : Int32) (v_inn_listeners : Int32) (v_inn_house_rooms : Int32) (v_inn_house_doors : Int32) (v_casts_count : Int32) (v_casts_fitting : Int32) (v_notes_count : Int32) (v_notes_book : Nat → Int32) (v_notes_sort : Nat → Int32) (v_notes_one : Nat → Int32) (v_casts_plain_rows : Nat → Int64) (v_notes_other : Nat → Int32) (v_casts_fitters : Nat → Int32) (v_casts_tried : Nat → Int32) (v_casts_trial_setting : Int32) (v_casts_trial_been : Int32) (v_inn_house_how : Nat → Int32) (v_casts_trial_ways_rooms : Int32) (v_casts_trial_ways_steps : Nat → Int32) (v_inn_house_one : Nat → Int32) (v_inn_house_other : Nat → Int32) (v_inn_thingIn : Nat → Int32) (v_casts_trial_thingIn : Nat → Int32) (v_inn_full : Nat → Int32) (v_casts_trial_full : Nat → Int32) (v_casts_trial_heardBy : Nat → Int64) (v_casts_dreams : Nat → Int32) (v_casts_trial_dreamOf : Nat → Int32) (v_casts_trial_stateOf : Nat → Int32) (v_inn_bed : Nat → Int32) (v_casts_trial_roomOf : Nat → Int32) (v_casts_trial_handOf : Nat → Int32) (v_casts_trial_awake : Nat → Int32) (v_casts_trial_how : Nat → Int32) (v_casts_trial_passed : Nat → Int32) (v_inn_states : Nat → Int32) (v_inn_house_creak : Nat → Int32) (v_inn_listensIn : Nat → Int32) (v_inn_house_ways_steps : Nat → Int32) (v_inn_house_cold : Nat → Int32) (v_inn_house_falls : Nat → Int32) (v_casts_set_rows : Nat → Int64) (v_casts_kin : Nat → Int32) : Option (Int32 × Int32 × Int32 × (Nat → Int64) × (Nat → Int32) × (Nat → Int32) × Int32 × Int32 × Int32 × (Nat → Int32) × (Nat → Int32) × (Nat → Int32) × (Nat → Int64) × (Nat → Int32) × (Nat → Int32) × (Nat → Int32) × (Nat → Int32) × (Nat → Int32) × (Nat → Int32) × (Nat → Int32) × (Nat → Int64) × (Nat → Int32)) := (fX10_isSetting N p0 v_inn_minutes v_inn_house_doors).bind (un1 fun (r_2 : Int32) => if r_2 = 0 then ((fX10_refuse N 1).bind (un2 fun (r_18 : Int32) (v_refusal_18 : Int32) => some (r_18, v_refusal_18, v_casts_fitting, v_casts_plain_rows, v_casts_fitters, v_casts_tried, v_casts_trial_setting, v_casts_trial_been, v_casts_trial_ways_rooms, v_casts_trial_ways_steps, v_casts_trial_thingIn, v_casts_trial_full, v_casts_trial_heardBy, v_casts_trial_dreamOf, v_casts_trial_stateOf, v_casts_trial_roomOf, v_casts_trial_handOf, v_casts_trial_awake, v_casts_trial_how, v_casts_trial_passed, v_casts_set_rows, v_casts_kin))) else ((fX10_isSetting N p1 v_inn_minutes v_inn_house_doors).bind (un1 fun (r_10 : Int32) => if r_10 = 0 then ((fX10_refuse N 1).bind (un2 fun (r_18 : Int32) (v_refusal_18 : Int32) => some (r_18, v_refusal_18, v_casts_fitting, v_casts_plain_rows, v_casts_fitters, v_casts_tried, v_casts_trial_setting, v_casts_trial_been, v_casts_trial_ways_rooms, v_casts_trial_ways_steps, v_casts_trial_thingIn, v_casts_trial_full, v_casts_trial_heardBy, v_casts_trial_dreamOf, v_casts_trial_stateOf, v_casts_trial_roomOf, v_casts_trial_handOf, v_casts_trial_awake, v_casts_trial_how, v_casts_trial_passed, v_casts_set_rows, v_casts_kin))) else ((fX0_gather N 3 v_casts_count v_notes_count v_notes_book v_notes_sort v_notes_one v_casts_plain_rows v_notes_other v_casts_fitters).bind (un3 fun (r_31 : Int32) (v_casts_fitting_31 : Int32) (v_casts_fitters_31 : Nat → Int32) => if r_31 = 0 then ((fX10_refuse N 6).bind (un2 fun (r_40 : Int32) (v_refusal_40 : Int32) => some (r_40, v_refusal_40, v_casts_fitting_31, v_casts_plain_rows, v_casts_fitters_31, v_casts_tried, v_casts_trial_setting, v_casts_trial_been, v_casts_trial_ways_rooms, v_casts_trial_ways_steps, v_casts_trial_thingIn, v_casts_trial_full, v_casts_trial_heardBy, v_casts_trial_dreamOf, v_casts_trial_stateOf, v_casts_trial_roomOf, v_casts_trial_handOf, v_casts_trial_awake, v_casts_trial_how, v_casts_trial_passed, v_casts_set_rows, v_casts_kin))) else ((fX0_tryOuts N p0 p0 v_casts_count v_casts_tried v_casts_trial_setting v_casts_trial_been v_inn_minutes v_inn_things v_inn_sleepers v_inn_listeners v_inn_house_rooms v_inn_house_doors v_inn_house_how v_casts_trial_ways_rooms v_casts_trial_ways_steps v_inn_house_one v_inn_house_other v_inn_thingIn v_casts_trial_thingIn v_inn_full v_casts_trial_full v_casts_trial_heardBy v_casts_dreams v_casts_trial_dreamOf v_casts_trial_stateOf v_inn_bed v_casts_trial_roomOf v_casts_trial_handOf v_casts_trial_awake v_casts_trial_how v_casts_trial_passed v_inn_states v_inn_house_creak v_inn_listensIn v_inn_house_ways_steps v_inn_house_cold v_inn_house_falls v_casts_set_rows v_casts_kin v_casts_plain_rows).bind (un18 fun (v_casts_tried_50 : Nat → Int32) (v_casts_trial_setting_50 : Int32) (v_casts_trial_been_50 : Int32) (v_casts_trial_ways_rooms_50 : Int32) (v_casts_trial_ways_steps_50 : Nat → Int32) (v_casts_trial_thingIn_50 : Nat → Int32) (v_casts_trial_full_50 : Nat → Int32) (v_casts_trial_heardBy_50 : Nat → Int64) (v_casts_trial_dreamOf_50 : Nat → Int32) (v_casts_trial_stateOf_50 : Nat → Int32) (v_casts_trial_roomOf_50 : Nat → Int32) (v_casts_trial_handOf_50 : Nat → Int32) (v_casts_trial_awake_50 : Nat → Int32) (v_casts_trial_how_50 : Nat → Int32) (v_casts_trial_passed_50 : Nat → Int32) (v_casts_set_rows_50 : Nat → Int64) (v_casts_kin_50 : Nat → Int32) (v_casts_plain_rows_50 : Nat → Int64) => (fX0_tryOuts N p1 p1 v_casts_count v_casts_tried_50 v_casts_trial_setting_50 v_casts_trial_been_50 v_inn_minutes v_inn_things v_inn_sleepers v_inn_listeners v_inn_house_rooms v_inn_house_doors v_inn_house_how v_casts_trial_ways_rooms_50 v_casts_trial_ways_steps_50 v_inn_house_one v_inn_house_other v_inn_thingIn v_casts_trial_thingIn_50 v_inn_full v_casts_trial_full_50 v_casts_trial_heardBy_50 v_casts_dreams v_casts_trial_dreamOf_50 v_casts_trial_stateOf_50 v_inn_bed v_casts_trial_roomOf_50 v_casts_trial_handOf_50 v_casts_trial_awake_50 v_casts_trial_how_50 v_casts_trial_passed_50 v_inn_states v_inn_house_creak v_inn_listensIn v_inn_house_ways_steps v_inn_house_cold v_inn_house_falls v_casts_set_rows_50 v_casts_kin_50 v_casts_plain_rows_50).bind (un18 fun (v_casts_tried_59 : Nat → Int32) (v_casts_trial_setting_59 : Int32) (v_casts_trial_been_59 : Int32) (v_casts_trial_ways_rooms_59 : Int32) (v_casts_trial_ways_steps_59 : Nat → Int32) (v_casts_trial_thingIn_59 : Nat → Int32) (v_casts_trial_full_59 : Nat → Int32) (v_casts_trial_heardBy_59 : Nat → Int64) (v_casts_trial_dreamOf_59 : Nat → Int32) (v_casts_trial_stateOf_59 : Nat → Int32) (v_casts_trial_roomOf_59 : Nat → Int32) (v_casts_trial_handOf_59 : Nat → Int32) (v_casts_trial_awake_59 : Nat → Int32) (v_casts_trial_how_59 : Nat → Int32) (v_casts_trial_passed_59 : Nat → Int32) (v_casts_set_rows_59 : Nat → Int64) (v_casts_kin_59 : Nat → Int32) (v_casts_plain_rows_59 : Nat → Int64) => (fX0_mostAlike N p0 p1 v_casts_fitting_31 v_casts_fitters_31 v_casts_kin_59).bind (un1 fun (r_69 : Int32) => (fX10_answer N r_69).bind (un2 fun (r_72 : Int32) (v_refusal_72 : Int32) => some (r_72, v_refusal_72, v_casts_fitting_31, v_casts_plain_rows_59, v_casts_fitters_31, v_casts_tried_59, v_casts_trial_setting_59, v_casts_trial_been_59, v_casts_trial_ways_rooms_59, v_casts_trial_ways_steps_59, v_casts_trial_thingIn_59, v_casts_trial_full_59, v_casts_trial_heardBy_59, v_casts_trial_dreamOf_59, v_casts_trial_stateOf_59, v_casts_trial_roomOf_59, v_casts_trial_handOf_59, v_casts_trial_awake_59, v_casts_trial_how_59, v_casts_trial_passed_59, v_casts_set_rows_59, v_casts_kin_59)))))))))))
set_option maxHeartbeats 4000000 in
set_option maxRecDepth 100000 in
theorem ctX10_told (l : Launch) (E : EN) (h h_reader h_inn h_chosen h_night h_marks h_notes h_casts h_inn_house h_inn_thingIn h_inn_full h_inn_states h_inn_bed h_inn_dreamOf h_inn_listensIn h_inn_house_creak h_inn_house_cold h_inn_house_one h_inn_house_other h_inn_house_how h_inn_house_falls h_inn_house_ways h_casts_trial h_casts_dreams h_casts_plain h_casts_set h_casts_tried h_casts_kin h_casts_fitters h_notes_book h_notes_sort h_notes_one h_notes_other h_casts_plain_rows h_casts_trial_ways h_casts_trial_how h_casts_trial_passed h_casts_trial_dreamOf h_casts_trial_stateOf h_casts_trial_roomOf h_casts_trial_handOf h_casts_trial_awake h_casts_trial_thingIn h_casts_trial_full h_casts_trial_heardBy h_casts_trial_ways_steps h_inn_house_ways_steps h_casts_set_rows : Nat) (v_marked : Int32) (v_refusal : Int32) (v_latestFault : Int32) (v_faultPlace : Int32) (v_inn_minutes : Int32) (v_inn_things : Int32) (v_inn_dreams : Int32) (v_inn_sleepers : Int32) (v_inn_listeners : Int32) (v_inn_house_rooms : Int32) (v_inn_house_doors : Int32) (v_casts_count : Int32) (v_casts_fitting : Int32) (v_notes_count : Int32) (v_notes_book : Nat → Int32) (v_notes_sort : Nat → Int32) (v_notes_one : Nat → Int32) (v_casts_plain_rows : Nat → Int64) (v_notes_other : Nat → Int32) (v_casts_fitters : Nat → Int32) (v_casts_tried : Nat → Int32) (v_casts_trial_setting : Int32) (v_casts_trial_been : Int32) (v_inn_house_how : Nat → Int32) (v_casts_trial_ways_rooms : Int32) (v_casts_trial_ways_steps : Nat → Int32) (v_inn_house_one : Nat → Int32) (v_inn_house_other : Nat → Int32) (v_inn_thingIn : Nat → Int32) (v_casts_trial_thingIn : Nat → Int32) (v_inn_full : Nat → Int32) (v_casts_trial_full : Nat → Int32) (v_casts_trial_heardBy : Nat → Int64) (v_casts_dreams : Nat → Int32) (v_casts_trial_dreamOf : Nat → Int32) (v_casts_trial_stateOf : Nat → Int32) (v_inn_bed : Nat → Int32) (v_casts_trial_roomOf : Nat → Int32) (v_casts_trial_handOf : Nat → Int32) (v_casts_trial_awake : Nat → Int32) (v_casts_trial_how : Nat → Int32) (v_casts_trial_passed : Nat → Int32) (v_inn_states : Nat → Int32) (v_inn_house_creak : Nat → Int32) (v_inn_listensIn : Nat → Int32) (v_inn_house_ways_rooms : Int32) (v_inn_house_ways_steps : Nat → Int32) (v_inn_house_cold : Nat → Int32) (v_inn_house_falls : Nat → Int32) (v_casts_set_rows : Nat → Int64) (v_casts_kin : Nat → Int32) (N : Nat) (p0 : Int32) (p1 : Int32) (z : Int32 × Int32 × Int32 × (Nat → Int64) × (Nat → Int32) × (Nat → Int32) × Int32 × Int32 × Int32 × (Nat → Int32) × (Nat → Int32) × (Nat → Int32) × (Nat → Int64) × (Nat → Int32) × (Nat → Int32) × (Nat → Int32) × (Nat → Int32) × (Nat → Int32) × (Nat → Int32) × (Nat → Int32) × (Nat → Int64) × (Nat → Int32)) (hf : fX10_told N p0 p1 v_inn_minutes v_inn_things v_inn_sleepers v_inn_listeners v_inn_house_rooms v_inn_house_doors v_casts_count v_casts_fitting v_notes_count v_notes_book v_notes_sort v_notes_one v_casts_plain_rows v_notes_other v_casts_fitters v_casts_tried v_casts_trial_setting v_casts_trial_been v_inn_house_how v_casts_trial_ways_rooms v_casts_trial_ways_steps v_inn_house_one v_inn_house_other v_inn_thingIn v_casts_trial_thingIn v_inn_full v_casts_trial_full v_casts_trial_heardBy v_casts_dreams v_casts_trial_dreamOf v_casts_trial_stateOf v_inn_bed v_casts_trial_roomOf v_casts_trial_handOf v_casts_trial_awake v_casts_trial_how v_casts_trial_passed v_inn_states v_inn_house_creak v_inn_listensIn v_inn_house_ways_steps v_inn_house_cold v_inn_house_falls v_casts_set_rows v_casts_kin = some z) : CTi l E yX10_told cX10_told 3 .int 6 144 [.ref h, .int p0, .int p1] (wX10_told E h h_reader h_inn h_chosen h_night h_marks h_notes h_casts h_inn_house h_inn_thingIn h_inn_full h_inn_states h_inn_bed h_inn_dreamOf h_inn_listensIn h_inn_house_creak h_inn_house_cold h_inn_house_one h_inn_house_other h_inn_house_how h_inn_house_falls h_inn_house_ways h_casts_trial h_casts_dreams h_casts_plain h_casts_set h_casts_tried h_casts_kin h_casts_fitters h_notes_book h_notes_sort h_notes_one h_notes_other h_casts_plain_rows h_casts_trial_ways h_casts_trial_how h_casts_trial_passed h_casts_trial_dreamOf h_casts_trial_stateOf h_casts_trial_roomOf h_casts_trial_handOf h_casts_trial_awake h_casts_trial_thingIn h_casts_trial_full h_casts_trial_heardBy h_casts_trial_ways_steps h_inn_house_ways_steps h_casts_set_rows v_marked v_refusal v_latestFault v_faultPlace v_inn_minutes v_inn_things v_inn_dreams v_inn_sleepers v_inn_listeners v_inn_house_rooms v_inn_house_doors v_casts_count v_casts_fitting v_notes_count v_notes_book v_notes_sort v_notes_one v_casts_plain_rows v_notes_other v_casts_fitters v_casts_tried v_casts_trial_setting v_casts_trial_been v_inn_house_how v_casts_trial_ways_rooms v_casts_trial_ways_steps v_inn_house_one v_inn_house_other v_inn_thingIn v_casts_trial_thingIn v_inn_full v_casts_trial_full v_casts_trial_heardBy v_casts_dreams v_casts_trial_dreamOf v_casts_trial_stateOf v_inn_bed v_casts_trial_roomOf v_casts_trial_handOf v_casts_trial_awake v_casts_trial_how v_casts_trial_passed v_inn_states v_inn_house_creak v_inn_listensIn v_inn_house_ways_rooms v_inn_house_ways_steps v_inn_house_cold v_inn_house_falls v_casts_set_rows v_casts_kin) (z.1) (wX10_told E h h_reader h_inn h_chosen h_night h_marks h_notes h_casts h_inn_house h_inn_thingIn h_inn_full h_inn_states h_inn_bed h_inn_dreamOf h_inn_listensIn h_inn_house_creak h_inn_house_cold h_inn_house_one h_inn_house_other h_inn_house_how h_inn_house_falls h_inn_house_ways h_casts_trial h_casts_dreams h_casts_plain h_casts_set h_casts_tried h_casts_kin h_casts_fitters h_notes_book h_notes_sort h_notes_one h_notes_other h_casts_plain_rows h_casts_trial_ways h_casts_trial_how h_casts_trial_passed h_casts_trial_dreamOf h_casts_trial_stateOf h_casts_trial_roomOf h_casts_trial_handOf h_casts_trial_awake h_casts_trial_thingIn h_casts_trial_full h_casts_trial_heardBy h_casts_trial_ways_steps h_inn_house_ways_steps h_casts_set_rows v_marked z.2.1 v_latestFault v_faultPlace v_inn_minutes v_inn_things v_inn_dreams v_inn_sleepers v_inn_listeners v_inn_house_rooms v_inn_house_doors v_casts_count z.2.2.1 v_notes_count v_notes_book v_notes_sort v_notes_one z.2.2.2.1 v_notes_other z.2.2.2.2.1 z.2.2.2.2.2.1 z.2.2.2.2.2.2.1 z.2.2.2.2.2.2.2.1 v_inn_house_how z.2.2.2.2.2.2.2.2.1 z.2.2.2.2.2.2.2.2.2.1 v_inn_house_one v_inn_house_other v_inn_thingIn z.2.2.2.2.2.2.2.2.2.2.1 v_inn_full z.2.2.2.2.2.2.2.2.2.2.2.1 z.2.2.2.2.2.2.2.2.2.2.2.2.1 v_casts_dreams z.2.2.2.2.2.2.2.2.2.2.2.2.2.1 z.2.2.2.2.2.2.2.2.2.2.2.2.2.2.1 v_inn_bed z.2.2.2.2.2.2.2.2.2.2.2.2.2.2.2.1 z.2.2.2.2.2.2.2.2.2.2.2.2.2.2.2.2.1 z.2.2.2.2.2.2.2.2.2.2.2.2.2.2.2.2.2.1 z.2.2.2.2.2.2.2.2.2.2.2.2.2.2.2.2.2.2.1 z.2.2.2.2.2.2.2.2.2.2.2.2.2.2.2.2.2.2.2.1 v_inn_states v_inn_house_creak v_inn_listensIn v_inn_house_ways_rooms v_inn_house_ways_steps v_inn_house_cold v_inn_house_falls z.2.2.2.2.2.2.2.2.2.2.2.2.2.2.2.2.2.2.2.2.1 z.2.2.2.2.2.2.2.2.2.2.2.2.2.2.2.2.2.2.2.2.2) := by
  intro sz
  refine ct_body (by decide) (Nat.le_of_ble_eq_true rfl) ?_
  intro p e s m args below meth c A ls hAe C hr hin hP hD hS hl
  have C : CX p s m args meth c cX10_told RX10 3 E A := C
  have hl : lv_has ls 3 [(0, .ref h), (1, .int p0), (2, .int p1)] := hl
  have hx := C.1
  have hb := C.2.1
  rw [hAe]
  clear hAe
  obtain ⟨Q, hQ⟩ : ∃ Q, Q = MQ below (Qi E A (z.1) (wX10_told E h h_reader h_inn h_chosen h_night h_marks h_notes h_casts h_inn_house h_inn_thingIn h_inn_full h_inn_states h_inn_bed h_inn_dreamOf h_inn_listensIn h_inn_house_creak h_inn_house_cold h_inn_house_one h_inn_house_other h_inn_house_how h_inn_house_falls h_inn_house_ways h_casts_trial h_casts_dreams h_casts_plain h_casts_set h_casts_tried h_casts_kin h_casts_fitters h_notes_book h_notes_sort h_notes_one h_notes_other h_casts_plain_rows h_casts_trial_ways h_casts_trial_how h_casts_trial_passed h_casts_trial_dreamOf h_casts_trial_stateOf h_casts_trial_roomOf h_casts_trial_handOf h_casts_trial_awake h_casts_trial_thingIn h_casts_trial_full h_casts_trial_heardBy h_casts_trial_ways_steps h_inn_house_ways_steps h_casts_set_rows v_marked z.2.1 v_latestFault v_faultPlace v_inn_minutes v_inn_things v_inn_dreams v_inn_sleepers v_inn_listeners v_inn_house_rooms v_inn_house_doors v_casts_count z.2.2.1 v_notes_count v_notes_book v_notes_sort v_notes_one z.2.2.2.1 v_notes_other z.2.2.2.2.1 z.2.2.2.2.2.1 z.2.2.2.2.2.2.1 z.2.2.2.2.2.2.2.1 v_inn_house_how z.2.2.2.2.2.2.2.2.1 z.2.2.2.2.2.2.2.2.2.1 v_inn_house_one v_inn_house_other v_inn_thingIn z.2.2.2.2.2.2.2.2.2.2.1 v_inn_full z.2.2.2.2.2.2.2.2.2.2.2.1 z.2.2.2.2.2.2.2.2.2.2.2.2.1 v_casts_dreams z.2.2.2.2.2.2.2.2.2.2.2.2.2.1 z.2.2.2.2.2.2.2.2.2.2.2.2.2.2.1 v_inn_bed z.2.2.2.2.2.2.2.2.2.2.2.2.2.2.2.1 z.2.2.2.2.2.2.2.2.2.2.2.2.2.2.2.2.1 z.2.2.2.2.2.2.2.2.2.2.2.2.2.2.2.2.2.1 z.2.2.2.2.2.2.2.2.2.2.2.2.2.2.2.2.2.2.1 z.2.2.2.2.2.2.2.2.2.2.2.2.2.2.2.2.2.2.2.1 v_inn_states v_inn_house_creak v_inn_listensIn v_inn_house_ways_rooms v_inn_house_ways_steps v_inn_house_cold v_inn_house_falls z.2.2.2.2.2.2.2.2.2.2.2.2.2.2.2.2.2.2.2.2.1 z.2.2.2.2.2.2.2.2.2.2.2.2.2.2.2.2.2.2.2.2.2)) args s 0 0 A := ⟨_, rfl⟩
  rw [← hQ]
  unfold fX10_told at hf
  refine lv_aload_n (pc := 0) hx hb dX10_told_0 rfl (lv_at hl 0 rfl) ?_
  refine lv_iload_n (pc := 1) hx hb dX10_told_1 rfl (lv_at hl 1 rfl) ?_
  obtain ⟨r_2, hc_2, hf⟩ := bd1 hf
  refine r_dalVi (pc := 2) (ws' := (wX10_told E h h_reader h_inn h_chosen h_night h_marks h_notes h_casts h_inn_house h_inn_thingIn h_inn_full h_inn_states h_inn_bed h_inn_dreamOf h_inn_listensIn h_inn_house_creak h_inn_house_cold h_inn_house_one h_inn_house_other h_inn_house_how h_inn_house_falls h_inn_house_ways h_casts_trial h_casts_dreams h_casts_plain h_casts_set h_casts_tried h_casts_kin h_casts_fitters h_notes_book h_notes_sort h_notes_one h_notes_other h_casts_plain_rows h_casts_trial_ways h_casts_trial_how h_casts_trial_passed h_casts_trial_dreamOf h_casts_trial_stateOf h_casts_trial_roomOf h_casts_trial_handOf h_casts_trial_awake h_casts_trial_thingIn h_casts_trial_full h_casts_trial_heardBy h_casts_trial_ways_steps h_inn_house_ways_steps h_casts_set_rows v_marked v_refusal v_latestFault v_faultPlace v_inn_minutes v_inn_things v_inn_dreams v_inn_sleepers v_inn_listeners v_inn_house_rooms v_inn_house_doors v_casts_count v_casts_fitting v_notes_count v_notes_book v_notes_sort v_notes_one v_casts_plain_rows v_notes_other v_casts_fitters v_casts_tried v_casts_trial_setting v_casts_trial_been v_inn_house_how v_casts_trial_ways_rooms v_casts_trial_ways_steps v_inn_house_one v_inn_house_other v_inn_thingIn v_casts_trial_thingIn v_inn_full v_casts_trial_full v_casts_trial_heardBy v_casts_dreams v_casts_trial_dreamOf v_casts_trial_stateOf v_inn_bed v_casts_trial_roomOf v_casts_trial_handOf v_casts_trial_awake v_casts_trial_how v_casts_trial_passed v_inn_states v_inn_house_creak v_inn_listensIn v_inn_house_ways_rooms v_inn_house_ways_steps v_inn_house_cold v_inn_house_falls v_casts_set_rows v_casts_kin)) (As := [.int p0]) (rest := []) C (ctX10_isSetting l E h h_reader h_inn h_chosen h_night h_marks h_notes h_casts h_inn_house h_inn_thingIn h_inn_full h_inn_states h_inn_bed h_inn_dreamOf h_inn_listensIn h_inn_house_creak h_inn_house_cold h_inn_house_one h_inn_house_other h_inn_house_how h_inn_house_falls h_inn_house_ways v_marked v_refusal v_latestFault v_faultPlace v_inn_minutes v_inn_things v_inn_dreams v_inn_sleepers v_inn_listeners v_inn_house_rooms v_inn_house_doors N p0 r_2 hc_2) ml_X10_149 ⟨Nat.le_of_ble_eq_true rfl, Nat.le_of_ble_eq_true rfl⟩ hP hD hS 0 rfl rfl rfl [0, 1, 2] [43, 44, 45, 3, 4, 5, 6, 7, 8, 9, 10, 11, 12, 13, 14, 15, 16, 17, 18, 19, 20, 21, 22, 23, 24, 25, 26, 27, 28, 29, 30, 31, 32, 33, 34, 35, 36, 37, 38, 39, 40, 41, 42] 43 rfl rfl rfl rfl rfl rfl rfl hl.1 rfl (Nat.le_of_ble_eq_true rfl) ⟨Nat.zero_le _, Nat.zero_le _⟩ dX10_told_2 ?_
  clear hP hD hS; intro H locs hP hD hS
  refine lv_if_eq (pc := 5) (tgt := 16) hx hb dX10_told_5 (by decide) (fun c_5 => ?_) (fun c_5 => ?_)
  · replace hf := it_t c_5 hf
    refine lv_aload_n (pc := 16) hx hb dX10_told_16 rfl (lv_at hl 0 rfl) ?_
    refine lv_iconst (pc := 17) (v := 1) hx hb dX10_told_17 (by decide) ?_
    obtain ⟨r_18, v_refusal_18, hc_18, hf⟩ := bd2 hf
    refine r_dalVi (pc := 18) (ws' := (wX10_told E h h_reader h_inn h_chosen h_night h_marks h_notes h_casts h_inn_house h_inn_thingIn h_inn_full h_inn_states h_inn_bed h_inn_dreamOf h_inn_listensIn h_inn_house_creak h_inn_house_cold h_inn_house_one h_inn_house_other h_inn_house_how h_inn_house_falls h_inn_house_ways h_casts_trial h_casts_dreams h_casts_plain h_casts_set h_casts_tried h_casts_kin h_casts_fitters h_notes_book h_notes_sort h_notes_one h_notes_other h_casts_plain_rows h_casts_trial_ways h_casts_trial_how h_casts_trial_passed h_casts_trial_dreamOf h_casts_trial_stateOf h_casts_trial_roomOf h_casts_trial_handOf h_casts_trial_awake h_casts_trial_thingIn h_casts_trial_full h_casts_trial_heardBy h_casts_trial_ways_steps h_inn_house_ways_steps h_casts_set_rows v_marked v_refusal_18 v_latestFault v_faultPlace v_inn_minutes v_inn_things v_inn_dreams v_inn_sleepers v_inn_listeners v_inn_house_rooms v_inn_house_doors v_casts_count v_casts_fitting v_notes_count v_notes_book v_notes_sort v_notes_one v_casts_plain_rows v_notes_other v_casts_fitters v_casts_tried v_casts_trial_setting v_casts_trial_been v_inn_house_how v_casts_trial_ways_rooms v_casts_trial_ways_steps v_inn_house_one v_inn_house_other v_inn_thingIn v_casts_trial_thingIn v_inn_full v_casts_trial_full v_casts_trial_heardBy v_casts_dreams v_casts_trial_dreamOf v_casts_trial_stateOf v_inn_bed v_casts_trial_roomOf v_casts_trial_handOf v_casts_trial_awake v_casts_trial_how v_casts_trial_passed v_inn_states v_inn_house_creak v_inn_listensIn v_inn_house_ways_rooms v_inn_house_ways_steps v_inn_house_cold v_inn_house_falls v_casts_set_rows v_casts_kin)) (As := [.int 1]) (rest := []) C (ctX10_refuse l E h h_reader h_inn h_chosen h_night h_marks h_notes h_casts v_marked v_refusal v_latestFault v_faultPlace N 1 (r_18, v_refusal_18) hc_18) ml_X10_68 ⟨Nat.le_of_ble_eq_true rfl, Nat.le_of_ble_eq_true rfl⟩ hP hD hS 0 rfl rfl rfl [0] [43, 1, 2, 3, 4, 5, 6, 7, 8, 9, 10, 11, 12, 13, 14, 15, 16, 17, 18, 19, 20, 21, 22, 23, 24, 25, 26, 27, 28, 29, 30, 31, 32, 33, 34, 35, 36, 37, 38, 39, 40, 41, 42] 43 rfl rfl rfl rfl rfl rfl rfl hl.1 rfl (Nat.le_of_ble_eq_true rfl) ⟨Nat.zero_le _, Nat.zero_le _⟩ dX10_told_18 ?_
    clear hP hD hS; intro H locs hP hD hS
    cases hf
    rw [hQ]
    exact r_iret C hr hP hD hS rfl dX10_told_21
  · replace hf := it_f c_5 hf
    refine lv_aload_n (pc := 8) hx hb dX10_told_8 rfl (lv_at hl 0 rfl) ?_
    refine lv_iload_n (pc := 9) hx hb dX10_told_9 rfl (lv_at hl 2 rfl) ?_
    obtain ⟨r_10, hc_10, hf⟩ := bd1 hf
    refine r_dalVi (pc := 10) (ws' := (wX10_told E h h_reader h_inn h_chosen h_night h_marks h_notes h_casts h_inn_house h_inn_thingIn h_inn_full h_inn_states h_inn_bed h_inn_dreamOf h_inn_listensIn h_inn_house_creak h_inn_house_cold h_inn_house_one h_inn_house_other h_inn_house_how h_inn_house_falls h_inn_house_ways h_casts_trial h_casts_dreams h_casts_plain h_casts_set h_casts_tried h_casts_kin h_casts_fitters h_notes_book h_notes_sort h_notes_one h_notes_other h_casts_plain_rows h_casts_trial_ways h_casts_trial_how h_casts_trial_passed h_casts_trial_dreamOf h_casts_trial_stateOf h_casts_trial_roomOf h_casts_trial_handOf h_casts_trial_awake h_casts_trial_thingIn h_casts_trial_full h_casts_trial_heardBy h_casts_trial_ways_steps h_inn_house_ways_steps h_casts_set_rows v_marked v_refusal v_latestFault v_faultPlace v_inn_minutes v_inn_things v_inn_dreams v_inn_sleepers v_inn_listeners v_inn_house_rooms v_inn_house_doors v_casts_count v_casts_fitting v_notes_count v_notes_book v_notes_sort v_notes_one v_casts_plain_rows v_notes_other v_casts_fitters v_casts_tried v_casts_trial_setting v_casts_trial_been v_inn_house_how v_casts_trial_ways_rooms v_casts_trial_ways_steps v_inn_house_one v_inn_house_other v_inn_thingIn v_casts_trial_thingIn v_inn_full v_casts_trial_full v_casts_trial_heardBy v_casts_dreams v_casts_trial_dreamOf v_casts_trial_stateOf v_inn_bed v_casts_trial_roomOf v_casts_trial_handOf v_casts_trial_awake v_casts_trial_how v_casts_trial_passed v_inn_states v_inn_house_creak v_inn_listensIn v_inn_house_ways_rooms v_inn_house_ways_steps v_inn_house_cold v_inn_house_falls v_casts_set_rows v_casts_kin)) (As := [.int p1]) (rest := []) C (ctX10_isSetting l E h h_reader h_inn h_chosen h_night h_marks h_notes h_casts h_inn_house h_inn_thingIn h_inn_full h_inn_states h_inn_bed h_inn_dreamOf h_inn_listensIn h_inn_house_creak h_inn_house_cold h_inn_house_one h_inn_house_other h_inn_house_how h_inn_house_falls h_inn_house_ways v_marked v_refusal v_latestFault v_faultPlace v_inn_minutes v_inn_things v_inn_dreams v_inn_sleepers v_inn_listeners v_inn_house_rooms v_inn_house_doors N p1 r_10 hc_10) ml_X10_149 ⟨Nat.le_of_ble_eq_true rfl, Nat.le_of_ble_eq_true rfl⟩ hP hD hS 0 rfl rfl rfl [0, 1, 2] [43, 44, 45, 3, 4, 5, 6, 7, 8, 9, 10, 11, 12, 13, 14, 15, 16, 17, 18, 19, 20, 21, 22, 23, 24, 25, 26, 27, 28, 29, 30, 31, 32, 33, 34, 35, 36, 37, 38, 39, 40, 41, 42] 43 rfl rfl rfl rfl rfl rfl rfl hl.1 rfl (Nat.le_of_ble_eq_true rfl) ⟨Nat.zero_le _, Nat.zero_le _⟩ dX10_told_10 ?_
    clear hP hD hS; intro H locs hP hD hS
    refine lv_if_ne (pc := 13) (tgt := 22) hx hb dX10_told_13 (by decide) (fun c_13 => ?_) (fun c_13 => ?_)
    · replace hf := it_f c_13 hf
      refine lv_aload_n (pc := 22) hx hb dX10_told_22 rfl (lv_at hl 0 rfl) ?_
      refine r_get (pc := 23) C hP 0 rfl fl_X10_50 rfl dX10_told_23 ?_
      refine lv_aload_n (pc := 26) hx hb dX10_told_26 rfl (lv_at hl 0 rfl) ?_
      refine r_get (pc := 27) C hP 0 rfl fl_X10_43 rfl dX10_told_27 ?_
      refine lv_iconst (pc := 30) (v := 3) hx hb dX10_told_30 (by decide) ?_
      obtain ⟨r_31, v_casts_fitting_31, v_casts_fitters_31, hc_31, hf⟩ := bd3 hf
      refine r_dalVi (pc := 31) (ws' := (wX10_told E h h_reader h_inn h_chosen h_night h_marks h_notes h_casts h_inn_house h_inn_thingIn h_inn_full h_inn_states h_inn_bed h_inn_dreamOf h_inn_listensIn h_inn_house_creak h_inn_house_cold h_inn_house_one h_inn_house_other h_inn_house_how h_inn_house_falls h_inn_house_ways h_casts_trial h_casts_dreams h_casts_plain h_casts_set h_casts_tried h_casts_kin h_casts_fitters h_notes_book h_notes_sort h_notes_one h_notes_other h_casts_plain_rows h_casts_trial_ways h_casts_trial_how h_casts_trial_passed h_casts_trial_dreamOf h_casts_trial_stateOf h_casts_trial_roomOf h_casts_trial_handOf h_casts_trial_awake h_casts_trial_thingIn h_casts_trial_full h_casts_trial_heardBy h_casts_trial_ways_steps h_inn_house_ways_steps h_casts_set_rows v_marked v_refusal v_latestFault v_faultPlace v_inn_minutes v_inn_things v_inn_dreams v_inn_sleepers v_inn_listeners v_inn_house_rooms v_inn_house_doors v_casts_count v_casts_fitting_31 v_notes_count v_notes_book v_notes_sort v_notes_one v_casts_plain_rows v_notes_other v_casts_fitters_31 v_casts_tried v_casts_trial_setting v_casts_trial_been v_inn_house_how v_casts_trial_ways_rooms v_casts_trial_ways_steps v_inn_house_one v_inn_house_other v_inn_thingIn v_casts_trial_thingIn v_inn_full v_casts_trial_full v_casts_trial_heardBy v_casts_dreams v_casts_trial_dreamOf v_casts_trial_stateOf v_inn_bed v_casts_trial_roomOf v_casts_trial_handOf v_casts_trial_awake v_casts_trial_how v_casts_trial_passed v_inn_states v_inn_house_creak v_inn_listensIn v_inn_house_ways_rooms v_inn_house_ways_steps v_inn_house_cold v_inn_house_falls v_casts_set_rows v_casts_kin)) (As := [.ref h_notes, .int 3]) (rest := []) C (ctX0_gather l E h_casts h_casts_trial h_inn h_casts_dreams h_casts_plain h_casts_set h_casts_tried h_casts_kin h_casts_fitters h_notes h_notes_book h_notes_sort h_notes_one h_notes_other h_casts_plain_rows v_casts_count v_casts_fitting v_notes_count v_notes_book v_notes_sort v_notes_one v_casts_plain_rows v_notes_other v_casts_fitters N 3 (r_31, v_casts_fitting_31, v_casts_fitters_31) hc_31) ml_X10_262 ⟨Nat.le_of_ble_eq_true rfl, Nat.le_of_ble_eq_true rfl⟩ hP hD hS 3 rfl rfl rfl [3, 4, 5, 6, 7, 8, 9, 10, 11] [0, 1, 2, 43, 44, 45, 46, 47, 48, 49, 50, 51, 12, 13, 14, 15, 16, 17, 18, 19, 20, 21, 22, 23, 24, 25, 26, 27, 28, 29, 30, 31, 32, 33, 34, 35, 36, 37, 38, 39, 40, 41, 42] 43 rfl rfl rfl rfl rfl rfl rfl hl.1 rfl (Nat.le_of_ble_eq_true rfl) ⟨Nat.zero_le _, Nat.zero_le _⟩ dX10_told_31 ?_
      clear hP hD hS; intro H locs hP hD hS
      refine lv_if_ne (pc := 34) (tgt := 44) hx hb dX10_told_34 (by decide) (fun c_34 => ?_) (fun c_34 => ?_)
      · replace hf := it_f c_34 hf
        refine lv_aload_n (pc := 44) hx hb dX10_told_44 rfl (lv_at hl 0 rfl) ?_
        refine r_get (pc := 45) C hP 0 rfl fl_X10_50 rfl dX10_told_45 ?_
        refine lv_iload_n (pc := 48) hx hb dX10_told_48 rfl (lv_at hl 1 rfl) ?_
        refine lv_iload_n (pc := 49) hx hb dX10_told_49 rfl (lv_at hl 1 rfl) ?_
        obtain ⟨v_casts_tried_50, v_casts_trial_setting_50, v_casts_trial_been_50, v_casts_trial_ways_rooms_50, v_casts_trial_ways_steps_50, v_casts_trial_thingIn_50, v_casts_trial_full_50, v_casts_trial_heardBy_50, v_casts_trial_dreamOf_50, v_casts_trial_stateOf_50, v_casts_trial_roomOf_50, v_casts_trial_handOf_50, v_casts_trial_awake_50, v_casts_trial_how_50, v_casts_trial_passed_50, v_casts_set_rows_50, v_casts_kin_50, v_casts_plain_rows_50, hc_50, hf⟩ := bd18 hf
        refine r_dalVv (pc := 50) (ws' := (wX10_told E h h_reader h_inn h_chosen h_night h_marks h_notes h_casts h_inn_house h_inn_thingIn h_inn_full h_inn_states h_inn_bed h_inn_dreamOf h_inn_listensIn h_inn_house_creak h_inn_house_cold h_inn_house_one h_inn_house_other h_inn_house_how h_inn_house_falls h_inn_house_ways h_casts_trial h_casts_dreams h_casts_plain h_casts_set h_casts_tried h_casts_kin h_casts_fitters h_notes_book h_notes_sort h_notes_one h_notes_other h_casts_plain_rows h_casts_trial_ways h_casts_trial_how h_casts_trial_passed h_casts_trial_dreamOf h_casts_trial_stateOf h_casts_trial_roomOf h_casts_trial_handOf h_casts_trial_awake h_casts_trial_thingIn h_casts_trial_full h_casts_trial_heardBy h_casts_trial_ways_steps h_inn_house_ways_steps h_casts_set_rows v_marked v_refusal v_latestFault v_faultPlace v_inn_minutes v_inn_things v_inn_dreams v_inn_sleepers v_inn_listeners v_inn_house_rooms v_inn_house_doors v_casts_count v_casts_fitting_31 v_notes_count v_notes_book v_notes_sort v_notes_one v_casts_plain_rows_50 v_notes_other v_casts_fitters_31 v_casts_tried_50 v_casts_trial_setting_50 v_casts_trial_been_50 v_inn_house_how v_casts_trial_ways_rooms_50 v_casts_trial_ways_steps_50 v_inn_house_one v_inn_house_other v_inn_thingIn v_casts_trial_thingIn_50 v_inn_full v_casts_trial_full_50 v_casts_trial_heardBy_50 v_casts_dreams v_casts_trial_dreamOf_50 v_casts_trial_stateOf_50 v_inn_bed v_casts_trial_roomOf_50 v_casts_trial_handOf_50 v_casts_trial_awake_50 v_casts_trial_how_50 v_casts_trial_passed_50 v_inn_states v_inn_house_creak v_inn_listensIn v_inn_house_ways_rooms v_inn_house_ways_steps v_inn_house_cold v_inn_house_falls v_casts_set_rows_50 v_casts_kin_50)) (As := [.int p0, .int p0]) (rest := []) C (ctX0_tryOuts l E h_casts h_casts_trial h_inn h_casts_dreams h_casts_plain h_casts_set h_casts_tried h_casts_kin h_casts_fitters h_casts_trial_ways h_casts_trial_how h_casts_trial_passed h_casts_trial_dreamOf h_casts_trial_stateOf h_casts_trial_roomOf h_casts_trial_handOf h_casts_trial_awake h_casts_trial_thingIn h_casts_trial_full h_casts_trial_heardBy h_inn_house h_inn_thingIn h_inn_full h_inn_states h_inn_bed h_inn_dreamOf h_inn_listensIn h_inn_house_creak h_inn_house_cold h_inn_house_one h_inn_house_other h_inn_house_how h_inn_house_falls h_inn_house_ways h_casts_trial_ways_steps h_inn_house_ways_steps h_casts_set_rows h_casts_plain_rows v_casts_count v_casts_fitting_31 v_casts_tried v_casts_trial_setting v_casts_trial_been v_inn_minutes v_inn_things v_inn_dreams v_inn_sleepers v_inn_listeners v_inn_house_rooms v_inn_house_doors v_inn_house_how v_casts_trial_ways_rooms v_casts_trial_ways_steps v_inn_house_one v_inn_house_other v_inn_thingIn v_casts_trial_thingIn v_inn_full v_casts_trial_full v_casts_trial_heardBy v_casts_dreams v_casts_trial_dreamOf v_casts_trial_stateOf v_inn_bed v_casts_trial_roomOf v_casts_trial_handOf v_casts_trial_awake v_casts_trial_how v_casts_trial_passed v_inn_states v_inn_house_creak v_inn_listensIn v_inn_house_ways_rooms v_inn_house_ways_steps v_inn_house_cold v_inn_house_falls v_casts_set_rows v_casts_kin v_casts_plain_rows N p0 p0 (v_casts_tried_50, v_casts_trial_setting_50, v_casts_trial_been_50, v_casts_trial_ways_rooms_50, v_casts_trial_ways_steps_50, v_casts_trial_thingIn_50, v_casts_trial_full_50, v_casts_trial_heardBy_50, v_casts_trial_dreamOf_50, v_casts_trial_stateOf_50, v_casts_trial_roomOf_50, v_casts_trial_handOf_50, v_casts_trial_awake_50, v_casts_trial_how_50, v_casts_trial_passed_50, v_casts_set_rows_50, v_casts_kin_50, v_casts_plain_rows_50) hc_50) ml_X10_88 ⟨Nat.le_of_ble_eq_true rfl, Nat.le_of_ble_eq_true rfl⟩ hP hD hS 3 rfl rfl rfl [3, 12, 13, 1, 2, 14, 15, 16, 17, 18, 19, 20, 21, 22, 23, 24, 25, 26, 27, 28, 29, 30, 31, 32, 33, 34, 35, 36, 37, 38, 39, 40, 41, 42, 8, 9] [0, 46, 47, 43, 4, 5, 6, 7, 77, 78, 10, 11, 44, 45, 48, 49, 50, 51, 52, 53, 54, 55, 56, 57, 58, 59, 60, 61, 62, 63, 64, 65, 66, 67, 68, 69, 70, 71, 72, 73, 74, 75, 76] 43 rfl rfl rfl rfl rfl rfl rfl hl.1 rfl (Nat.le_of_ble_eq_true rfl) ⟨Nat.zero_le _, Nat.zero_le _⟩ dX10_told_50 ?_
        clear hP hD hS; intro H locs hP hD hS
        refine lv_aload_n (pc := 53) hx hb dX10_told_53 rfl (lv_at hl 0 rfl) ?_
        refine r_get (pc := 54) C hP 0 rfl fl_X10_50 rfl dX10_told_54 ?_
        refine lv_iload_n (pc := 57) hx hb dX10_told_57 rfl (lv_at hl 2 rfl) ?_
        refine lv_iload_n (pc := 58) hx hb dX10_told_58 rfl (lv_at hl 2 rfl) ?_
        obtain ⟨v_casts_tried_59, v_casts_trial_setting_59, v_casts_trial_been_59, v_casts_trial_ways_rooms_59, v_casts_trial_ways_steps_59, v_casts_trial_thingIn_59, v_casts_trial_full_59, v_casts_trial_heardBy_59, v_casts_trial_dreamOf_59, v_casts_trial_stateOf_59, v_casts_trial_roomOf_59, v_casts_trial_handOf_59, v_casts_trial_awake_59, v_casts_trial_how_59, v_casts_trial_passed_59, v_casts_set_rows_59, v_casts_kin_59, v_casts_plain_rows_59, hc_59, hf⟩ := bd18 hf
        refine r_dalVv (pc := 59) (ws' := (wX10_told E h h_reader h_inn h_chosen h_night h_marks h_notes h_casts h_inn_house h_inn_thingIn h_inn_full h_inn_states h_inn_bed h_inn_dreamOf h_inn_listensIn h_inn_house_creak h_inn_house_cold h_inn_house_one h_inn_house_other h_inn_house_how h_inn_house_falls h_inn_house_ways h_casts_trial h_casts_dreams h_casts_plain h_casts_set h_casts_tried h_casts_kin h_casts_fitters h_notes_book h_notes_sort h_notes_one h_notes_other h_casts_plain_rows h_casts_trial_ways h_casts_trial_how h_casts_trial_passed h_casts_trial_dreamOf h_casts_trial_stateOf h_casts_trial_roomOf h_casts_trial_handOf h_casts_trial_awake h_casts_trial_thingIn h_casts_trial_full h_casts_trial_heardBy h_casts_trial_ways_steps h_inn_house_ways_steps h_casts_set_rows v_marked v_refusal v_latestFault v_faultPlace v_inn_minutes v_inn_things v_inn_dreams v_inn_sleepers v_inn_listeners v_inn_house_rooms v_inn_house_doors v_casts_count v_casts_fitting_31 v_notes_count v_notes_book v_notes_sort v_notes_one v_casts_plain_rows_59 v_notes_other v_casts_fitters_31 v_casts_tried_59 v_casts_trial_setting_59 v_casts_trial_been_59 v_inn_house_how v_casts_trial_ways_rooms_59 v_casts_trial_ways_steps_59 v_inn_house_one v_inn_house_other v_inn_thingIn v_casts_trial_thingIn_59 v_inn_full v_casts_trial_full_59 v_casts_trial_heardBy_59 v_casts_dreams v_casts_trial_dreamOf_59 v_casts_trial_stateOf_59 v_inn_bed v_casts_trial_roomOf_59 v_casts_trial_handOf_59 v_casts_trial_awake_59 v_casts_trial_how_59 v_casts_trial_passed_59 v_inn_states v_inn_house_creak v_inn_listensIn v_inn_house_ways_rooms v_inn_house_ways_steps v_inn_house_cold v_inn_house_falls v_casts_set_rows_59 v_casts_kin_59)) (As := [.int p1, .int p1]) (rest := []) C (ctX0_tryOuts l E h_casts h_casts_trial h_inn h_casts_dreams h_casts_plain h_casts_set h_casts_tried h_casts_kin h_casts_fitters h_casts_trial_ways h_casts_trial_how h_casts_trial_passed h_casts_trial_dreamOf h_casts_trial_stateOf h_casts_trial_roomOf h_casts_trial_handOf h_casts_trial_awake h_casts_trial_thingIn h_casts_trial_full h_casts_trial_heardBy h_inn_house h_inn_thingIn h_inn_full h_inn_states h_inn_bed h_inn_dreamOf h_inn_listensIn h_inn_house_creak h_inn_house_cold h_inn_house_one h_inn_house_other h_inn_house_how h_inn_house_falls h_inn_house_ways h_casts_trial_ways_steps h_inn_house_ways_steps h_casts_set_rows h_casts_plain_rows v_casts_count v_casts_fitting_31 v_casts_tried_50 v_casts_trial_setting_50 v_casts_trial_been_50 v_inn_minutes v_inn_things v_inn_dreams v_inn_sleepers v_inn_listeners v_inn_house_rooms v_inn_house_doors v_inn_house_how v_casts_trial_ways_rooms_50 v_casts_trial_ways_steps_50 v_inn_house_one v_inn_house_other v_inn_thingIn v_casts_trial_thingIn_50 v_inn_full v_casts_trial_full_50 v_casts_trial_heardBy_50 v_casts_dreams v_casts_trial_dreamOf_50 v_casts_trial_stateOf_50 v_inn_bed v_casts_trial_roomOf_50 v_casts_trial_handOf_50 v_casts_trial_awake_50 v_casts_trial_how_50 v_casts_trial_passed_50 v_inn_states v_inn_house_creak v_inn_listensIn v_inn_house_ways_rooms v_inn_house_ways_steps v_inn_house_cold v_inn_house_falls v_casts_set_rows_50 v_casts_kin_50 v_casts_plain_rows_50 N p1 p1 (v_casts_tried_59, v_casts_trial_setting_59, v_casts_trial_been_59, v_casts_trial_ways_rooms_59, v_casts_trial_ways_steps_59, v_casts_trial_thingIn_59, v_casts_trial_full_59, v_casts_trial_heardBy_59, v_casts_trial_dreamOf_59, v_casts_trial_stateOf_59, v_casts_trial_roomOf_59, v_casts_trial_handOf_59, v_casts_trial_awake_59, v_casts_trial_how_59, v_casts_trial_passed_59, v_casts_set_rows_59, v_casts_kin_59, v_casts_plain_rows_59) hc_59) ml_X10_88 ⟨Nat.le_of_ble_eq_true rfl, Nat.le_of_ble_eq_true rfl⟩ hP hD hS 3 rfl rfl rfl [3, 12, 13, 1, 2, 14, 15, 16, 17, 18, 19, 20, 21, 22, 23, 24, 25, 26, 27, 28, 29, 30, 31, 32, 33, 34, 35, 36, 37, 38, 39, 40, 41, 42, 8, 9] [0, 46, 47, 43, 4, 5, 6, 7, 77, 78, 10, 11, 44, 45, 48, 49, 50, 51, 52, 53, 54, 55, 56, 57, 58, 59, 60, 61, 62, 63, 64, 65, 66, 67, 68, 69, 70, 71, 72, 73, 74, 75, 76] 43 rfl rfl rfl rfl rfl rfl rfl hl.1 rfl (Nat.le_of_ble_eq_true rfl) ⟨Nat.zero_le _, Nat.zero_le _⟩ dX10_told_59 ?_
        clear hP hD hS; intro H locs hP hD hS
        refine lv_aload_n (pc := 62) hx hb dX10_told_62 rfl (lv_at hl 0 rfl) ?_
        refine lv_aload_n (pc := 63) hx hb dX10_told_63 rfl (lv_at hl 0 rfl) ?_
        refine r_get (pc := 64) C hP 0 rfl fl_X10_50 rfl dX10_told_64 ?_
        refine lv_iload_n (pc := 67) hx hb dX10_told_67 rfl (lv_at hl 1 rfl) ?_
        refine lv_iload_n (pc := 68) hx hb dX10_told_68 rfl (lv_at hl 2 rfl) ?_
        obtain ⟨r_69, hc_69, hf⟩ := bd1 hf
        refine r_dalVi (pc := 69) (ws' := (wX10_told E h h_reader h_inn h_chosen h_night h_marks h_notes h_casts h_inn_house h_inn_thingIn h_inn_full h_inn_states h_inn_bed h_inn_dreamOf h_inn_listensIn h_inn_house_creak h_inn_house_cold h_inn_house_one h_inn_house_other h_inn_house_how h_inn_house_falls h_inn_house_ways h_casts_trial h_casts_dreams h_casts_plain h_casts_set h_casts_tried h_casts_kin h_casts_fitters h_notes_book h_notes_sort h_notes_one h_notes_other h_casts_plain_rows h_casts_trial_ways h_casts_trial_how h_casts_trial_passed h_casts_trial_dreamOf h_casts_trial_stateOf h_casts_trial_roomOf h_casts_trial_handOf h_casts_trial_awake h_casts_trial_thingIn h_casts_trial_full h_casts_trial_heardBy h_casts_trial_ways_steps h_inn_house_ways_steps h_casts_set_rows v_marked v_refusal v_latestFault v_faultPlace v_inn_minutes v_inn_things v_inn_dreams v_inn_sleepers v_inn_listeners v_inn_house_rooms v_inn_house_doors v_casts_count v_casts_fitting_31 v_notes_count v_notes_book v_notes_sort v_notes_one v_casts_plain_rows_59 v_notes_other v_casts_fitters_31 v_casts_tried_59 v_casts_trial_setting_59 v_casts_trial_been_59 v_inn_house_how v_casts_trial_ways_rooms_59 v_casts_trial_ways_steps_59 v_inn_house_one v_inn_house_other v_inn_thingIn v_casts_trial_thingIn_59 v_inn_full v_casts_trial_full_59 v_casts_trial_heardBy_59 v_casts_dreams v_casts_trial_dreamOf_59 v_casts_trial_stateOf_59 v_inn_bed v_casts_trial_roomOf_59 v_casts_trial_handOf_59 v_casts_trial_awake_59 v_casts_trial_how_59 v_casts_trial_passed_59 v_inn_states v_inn_house_creak v_inn_listensIn v_inn_house_ways_rooms v_inn_house_ways_steps v_inn_house_cold v_inn_house_falls v_casts_set_rows_59 v_casts_kin_59)) (As := [.int p0, .int p1]) (rest := [.ref h]) C (ctX0_mostAlike l E h_casts h_casts_trial h_inn h_casts_dreams h_casts_plain h_casts_set h_casts_tried h_casts_kin h_casts_fitters v_casts_count v_casts_fitting_31 v_casts_fitters_31 v_casts_kin_59 N p0 p1 r_69 hc_69) ml_X10_272 ⟨Nat.le_of_ble_eq_true rfl, Nat.le_of_ble_eq_true rfl⟩ hP hD hS 3 rfl rfl rfl [3, 11, 42] [0, 1, 2, 43, 4, 5, 6, 7, 8, 9, 10, 44, 12, 13, 14, 15, 16, 17, 18, 19, 20, 21, 22, 23, 24, 25, 26, 27, 28, 29, 30, 31, 32, 33, 34, 35, 36, 37, 38, 39, 40, 41, 45] 43 rfl rfl rfl rfl rfl rfl rfl hl.1 rfl (Nat.le_of_ble_eq_true rfl) ⟨Nat.zero_le _, Nat.zero_le _⟩ dX10_told_69 ?_
        clear hP hD hS; intro H locs hP hD hS
        obtain ⟨r_72, v_refusal_72, hc_72, hf⟩ := bd2 hf
        refine r_dalVi (pc := 72) (ws' := (wX10_told E h h_reader h_inn h_chosen h_night h_marks h_notes h_casts h_inn_house h_inn_thingIn h_inn_full h_inn_states h_inn_bed h_inn_dreamOf h_inn_listensIn h_inn_house_creak h_inn_house_cold h_inn_house_one h_inn_house_other h_inn_house_how h_inn_house_falls h_inn_house_ways h_casts_trial h_casts_dreams h_casts_plain h_casts_set h_casts_tried h_casts_kin h_casts_fitters h_notes_book h_notes_sort h_notes_one h_notes_other h_casts_plain_rows h_casts_trial_ways h_casts_trial_how h_casts_trial_passed h_casts_trial_dreamOf h_casts_trial_stateOf h_casts_trial_roomOf h_casts_trial_handOf h_casts_trial_awake h_casts_trial_thingIn h_casts_trial_full h_casts_trial_heardBy h_casts_trial_ways_steps h_inn_house_ways_steps h_casts_set_rows v_marked v_refusal_72 v_latestFault v_faultPlace v_inn_minutes v_inn_things v_inn_dreams v_inn_sleepers v_inn_listeners v_inn_house_rooms v_inn_house_doors v_casts_count v_casts_fitting_31 v_notes_count v_notes_book v_notes_sort v_notes_one v_casts_plain_rows_59 v_notes_other v_casts_fitters_31 v_casts_tried_59 v_casts_trial_setting_59 v_casts_trial_been_59 v_inn_house_how v_casts_trial_ways_rooms_59 v_casts_trial_ways_steps_59 v_inn_house_one v_inn_house_other v_inn_thingIn v_casts_trial_thingIn_59 v_inn_full v_casts_trial_full_59 v_casts_trial_heardBy_59 v_casts_dreams v_casts_trial_dreamOf_59 v_casts_trial_stateOf_59 v_inn_bed v_casts_trial_roomOf_59 v_casts_trial_handOf_59 v_casts_trial_awake_59 v_casts_trial_how_59 v_casts_trial_passed_59 v_inn_states v_inn_house_creak v_inn_listensIn v_inn_house_ways_rooms v_inn_house_ways_steps v_inn_house_cold v_inn_house_falls v_casts_set_rows_59 v_casts_kin_59)) (As := [.int r_69]) (rest := []) C (ctX10_answer l E h h_reader h_inn h_chosen h_night h_marks h_notes h_casts v_marked v_refusal v_latestFault v_faultPlace N r_69 (r_72, v_refusal_72) hc_72) ml_X10_95 ⟨Nat.le_of_ble_eq_true rfl, Nat.le_of_ble_eq_true rfl⟩ hP hD hS 0 rfl rfl rfl [0] [43, 1, 2, 3, 4, 5, 6, 7, 8, 9, 10, 11, 12, 13, 14, 15, 16, 17, 18, 19, 20, 21, 22, 23, 24, 25, 26, 27, 28, 29, 30, 31, 32, 33, 34, 35, 36, 37, 38, 39, 40, 41, 42] 43 rfl rfl rfl rfl rfl rfl rfl hl.1 rfl (Nat.le_of_ble_eq_true rfl) ⟨Nat.zero_le _, Nat.zero_le _⟩ dX10_told_72 ?_
        clear hP hD hS; intro H locs hP hD hS
        cases hf
        rw [hQ]
        exact r_iret C hr hP hD hS rfl dX10_told_75
      · replace hf := it_t c_34 hf
        refine lv_aload_n (pc := 37) hx hb dX10_told_37 rfl (lv_at hl 0 rfl) ?_
        refine lv_bipush (pc := 38) (v := 6) hx hb dX10_told_38 (by decide) ?_
        obtain ⟨r_40, v_refusal_40, hc_40, hf⟩ := bd2 hf
        refine r_dalVi (pc := 40) (ws' := (wX10_told E h h_reader h_inn h_chosen h_night h_marks h_notes h_casts h_inn_house h_inn_thingIn h_inn_full h_inn_states h_inn_bed h_inn_dreamOf h_inn_listensIn h_inn_house_creak h_inn_house_cold h_inn_house_one h_inn_house_other h_inn_house_how h_inn_house_falls h_inn_house_ways h_casts_trial h_casts_dreams h_casts_plain h_casts_set h_casts_tried h_casts_kin h_casts_fitters h_notes_book h_notes_sort h_notes_one h_notes_other h_casts_plain_rows h_casts_trial_ways h_casts_trial_how h_casts_trial_passed h_casts_trial_dreamOf h_casts_trial_stateOf h_casts_trial_roomOf h_casts_trial_handOf h_casts_trial_awake h_casts_trial_thingIn h_casts_trial_full h_casts_trial_heardBy h_casts_trial_ways_steps h_inn_house_ways_steps h_casts_set_rows v_marked v_refusal_40 v_latestFault v_faultPlace v_inn_minutes v_inn_things v_inn_dreams v_inn_sleepers v_inn_listeners v_inn_house_rooms v_inn_house_doors v_casts_count v_casts_fitting_31 v_notes_count v_notes_book v_notes_sort v_notes_one v_casts_plain_rows v_notes_other v_casts_fitters_31 v_casts_tried v_casts_trial_setting v_casts_trial_been v_inn_house_how v_casts_trial_ways_rooms v_casts_trial_ways_steps v_inn_house_one v_inn_house_other v_inn_thingIn v_casts_trial_thingIn v_inn_full v_casts_trial_full v_casts_trial_heardBy v_casts_dreams v_casts_trial_dreamOf v_casts_trial_stateOf v_inn_bed v_casts_trial_roomOf v_casts_trial_handOf v_casts_trial_awake v_casts_trial_how v_casts_trial_passed v_inn_states v_inn_house_creak v_inn_listensIn v_inn_house_ways_rooms v_inn_house_ways_steps v_inn_house_cold v_inn_house_falls v_casts_set_rows v_casts_kin)) (As := [.int 6]) (rest := []) C (ctX10_refuse l E h h_reader h_inn h_chosen h_night h_marks h_notes h_casts v_marked v_refusal v_latestFault v_faultPlace N 6 (r_40, v_refusal_40) hc_40) ml_X10_68 ⟨Nat.le_of_ble_eq_true rfl, Nat.le_of_ble_eq_true rfl⟩ hP hD hS 0 rfl rfl rfl [0] [43, 1, 2, 3, 4, 5, 6, 7, 8, 9, 10, 11, 12, 13, 14, 15, 16, 17, 18, 19, 20, 21, 22, 23, 24, 25, 26, 27, 28, 29, 30, 31, 32, 33, 34, 35, 36, 37, 38, 39, 40, 41, 42] 43 rfl rfl rfl rfl rfl rfl rfl hl.1 rfl (Nat.le_of_ble_eq_true rfl) ⟨Nat.zero_le _, Nat.zero_le _⟩ dX10_told_40 ?_
        clear hP hD hS; intro H locs hP hD hS
        cases hf
        rw [hQ]
        exact r_iret C hr hP hD hS rfl dX10_told_43
    · replace hf := it_t c_13 hf
      refine lv_aload_n (pc := 16) hx hb dX10_told_16 rfl (lv_at hl 0 rfl) ?_
      refine lv_iconst (pc := 17) (v := 1) hx hb dX10_told_17 (by decide) ?_
      obtain ⟨r_18, v_refusal_18, hc_18, hf⟩ := bd2 hf
      refine r_dalVi (pc := 18) (ws' := (wX10_told E h h_reader h_inn h_chosen h_night h_marks h_notes h_casts h_inn_house h_inn_thingIn h_inn_full h_inn_states h_inn_bed h_inn_dreamOf h_inn_listensIn h_inn_house_creak h_inn_house_cold h_inn_house_one h_inn_house_other h_inn_house_how h_inn_house_falls h_inn_house_ways h_casts_trial h_casts_dreams h_casts_plain h_casts_set h_casts_tried h_casts_kin h_casts_fitters h_notes_book h_notes_sort h_notes_one h_notes_other h_casts_plain_rows h_casts_trial_ways h_casts_trial_how h_casts_trial_passed h_casts_trial_dreamOf h_casts_trial_stateOf h_casts_trial_roomOf h_casts_trial_handOf h_casts_trial_awake h_casts_trial_thingIn h_casts_trial_full h_casts_trial_heardBy h_casts_trial_ways_steps h_inn_house_ways_steps h_casts_set_rows v_marked v_refusal_18 v_latestFault v_faultPlace v_inn_minutes v_inn_things v_inn_dreams v_inn_sleepers v_inn_listeners v_inn_house_rooms v_inn_house_doors v_casts_count v_casts_fitting v_notes_count v_notes_book v_notes_sort v_notes_one v_casts_plain_rows v_notes_other v_casts_fitters v_casts_tried v_casts_trial_setting v_casts_trial_been v_inn_house_how v_casts_trial_ways_rooms v_casts_trial_ways_steps v_inn_house_one v_inn_house_other v_inn_thingIn v_casts_trial_thingIn v_inn_full v_casts_trial_full v_casts_trial_heardBy v_casts_dreams v_casts_trial_dreamOf v_casts_trial_stateOf v_inn_bed v_casts_trial_roomOf v_casts_trial_handOf v_casts_trial_awake v_casts_trial_how v_casts_trial_passed v_inn_states v_inn_house_creak v_inn_listensIn v_inn_house_ways_rooms v_inn_house_ways_steps v_inn_house_cold v_inn_house_falls v_casts_set_rows v_casts_kin)) (As := [.int 1]) (rest := []) C (ctX10_refuse l E h h_reader h_inn h_chosen h_night h_marks h_notes h_casts v_marked v_refusal v_latestFault v_faultPlace N 1 (r_18, v_refusal_18) hc_18) ml_X10_68 ⟨Nat.le_of_ble_eq_true rfl, Nat.le_of_ble_eq_true rfl⟩ hP hD hS 0 rfl rfl rfl [0] [43, 1, 2, 3, 4, 5, 6, 7, 8, 9, 10, 11, 12, 13, 14, 15, 16, 17, 18, 19, 20, 21, 22, 23, 24, 25, 26, 27, 28, 29, 30, 31, 32, 33, 34, 35, 36, 37, 38, 39, 40, 41, 42] 43 rfl rfl rfl rfl rfl rfl rfl hl.1 rfl (Nat.le_of_ble_eq_true rfl) ⟨Nat.zero_le _, Nat.zero_le _⟩ dX10_told_18 ?_
      clear hP hD hS; intro H locs hP hD hS
      cases hf
      rw [hQ]
      exact r_iret C hr hP hD hS rfl dX10_told_21
def wX0_areAlike (E : EN) (h h_trial h_inn h_dreams h_plain h_set h_tried h_kin h_fitters h_inn_house h_inn_thingIn h_inn_full h_inn_states h_inn_bed h_inn_dreamOf h_inn_listensIn h_inn_house_creak h_inn_house_cold h_inn_house_one h_inn_house_other h_inn_house_how h_inn_house_falls h_inn_house_ways : Nat) (v_count : Int32) (v_fitting : Int32) (v_inn_minutes : Int32) (v_inn_things : Int32) (v_inn_dreams : Int32) (v_inn_sleepers : Int32) (v_inn_listeners : Int32) (v_inn_house_rooms : Int32) (v_inn_house_doors : Int32) (v_fitters : Nat → Int32) (v_kin : Nat → Int32) : va_W := [(h, .inr (0, [.ref h_trial, .ref h_inn, .int v_count, .ref h_dreams, .ref h_plain, .ref h_set, .ref h_tried, .ref h_kin, .int v_fitting, .ref h_fitters])), (h_inn, .inr (2, [.ref h_inn_house, .int v_inn_minutes, .int v_inn_things, .ref h_inn_thingIn, .ref h_inn_full, .int v_inn_dreams, .ref h_inn_states, .int v_inn_sleepers, .ref h_inn_bed, .ref h_inn_dreamOf, .int v_inn_listeners, .ref h_inn_listensIn])), (h_inn_house, .inr (1, [.int v_inn_house_rooms, .ref h_inn_house_creak, .ref h_inn_house_cold, .int v_inn_house_doors, .ref h_inn_house_one, .ref h_inn_house_other, .ref h_inn_house_how, .ref h_inn_house_falls, .ref h_inn_house_ways])), (h_fitters, aI E 64 v_fitters), (h_kin, aI E 1344 v_kin)]
def BX0_areAlike_2 (N : Nat) (v_inn_house_doors : Int32) (p0 : Int32) (p1 : Int32) (v_fitters : Nat → Int32) (v_kin : Nat → Int32) (rec2 : (Int32) → Option Int32) : (Int32) → Option Int32 := un1 fun (x2_3 : Int32) => (fX2_settings N v_inn_house_doors).bind (un1 fun (r_7 : Int32) => if r_7 ≤ x2_3 then (some 1) else ((fX0_areSame N p0 p1 x2_3 v_fitters v_kin).bind (un1 fun (r_17 : Int32) => if r_17 = 0 then (some 0) else (rec2 (x2_3 + 1)))))
def fX0_areAlike (N : Nat) (p0 : Int32) (p1 : Int32) (v_inn_house_doors : Int32) (v_fitters : Nat → Int32) (v_kin : Nat → Int32) : Option Int32 := lp (BX0_areAlike_2 N v_inn_house_doors p0 p1 v_fitters v_kin) N 0
set_option maxHeartbeats 4000000 in
set_option maxRecDepth 100000 in
theorem ctX0_areAlike (l : Launch) (E : EN) (h h_trial h_inn h_dreams h_plain h_set h_tried h_kin h_fitters h_inn_house h_inn_thingIn h_inn_full h_inn_states h_inn_bed h_inn_dreamOf h_inn_listensIn h_inn_house_creak h_inn_house_cold h_inn_house_one h_inn_house_other h_inn_house_how h_inn_house_falls h_inn_house_ways : Nat) (v_count : Int32) (v_fitting : Int32) (v_inn_minutes : Int32) (v_inn_things : Int32) (v_inn_dreams : Int32) (v_inn_sleepers : Int32) (v_inn_listeners : Int32) (v_inn_house_rooms : Int32) (v_inn_house_doors : Int32) (v_fitters : Nat → Int32) (v_kin : Nat → Int32) (N : Nat) (p0 : Int32) (p1 : Int32) (z : Int32) (hf : fX0_areAlike N p0 p1 v_inn_house_doors v_fitters v_kin = some z) : CTi l E yX0_areAlike cX0_areAlike 4 .boolean 1 24 [.ref h, .int p0, .int p1] (wX0_areAlike E h h_trial h_inn h_dreams h_plain h_set h_tried h_kin h_fitters h_inn_house h_inn_thingIn h_inn_full h_inn_states h_inn_bed h_inn_dreamOf h_inn_listensIn h_inn_house_creak h_inn_house_cold h_inn_house_one h_inn_house_other h_inn_house_how h_inn_house_falls h_inn_house_ways v_count v_fitting v_inn_minutes v_inn_things v_inn_dreams v_inn_sleepers v_inn_listeners v_inn_house_rooms v_inn_house_doors v_fitters v_kin) (z) (wX0_areAlike E h h_trial h_inn h_dreams h_plain h_set h_tried h_kin h_fitters h_inn_house h_inn_thingIn h_inn_full h_inn_states h_inn_bed h_inn_dreamOf h_inn_listensIn h_inn_house_creak h_inn_house_cold h_inn_house_one h_inn_house_other h_inn_house_how h_inn_house_falls h_inn_house_ways v_count v_fitting v_inn_minutes v_inn_things v_inn_dreams v_inn_sleepers v_inn_listeners v_inn_house_rooms v_inn_house_doors v_fitters v_kin) := by
  intro sz
  refine ct_body (by decide) (Nat.le_of_ble_eq_true rfl) ?_
  intro p e s m args below meth c A ls hAe C hr hin hP hD hS hl
  have C : CX p s m args meth c cX0_areAlike RX0 4 E A := C
  have hl : lv_has ls 4 [(0, .ref h), (1, .int p0), (2, .int p1)] := hl
  have hx := C.1
  have hb := C.2.1
  rw [hAe]
  clear hAe
  obtain ⟨Q, hQ⟩ : ∃ Q, Q = MQ below (Qi E A (z) (wX0_areAlike E h h_trial h_inn h_dreams h_plain h_set h_tried h_kin h_fitters h_inn_house h_inn_thingIn h_inn_full h_inn_states h_inn_bed h_inn_dreamOf h_inn_listensIn h_inn_house_creak h_inn_house_cold h_inn_house_one h_inn_house_other h_inn_house_how h_inn_house_falls h_inn_house_ways v_count v_fitting v_inn_minutes v_inn_things v_inn_dreams v_inn_sleepers v_inn_listeners v_inn_house_rooms v_inn_house_doors v_fitters v_kin)) args s 0 0 A := ⟨_, rfl⟩
  rw [← hQ]
  unfold fX0_areAlike at hf
  refine lv_iconst (pc := 0) (v := 0) hx hb dX0_areAlike_0 (by decide) ?_
  refine lv_istore_n (pc := 1) (lv' := [(3, .int 0), (0, .ref h), (1, .int p0), (2, .int p1)]) hx hb dX0_areAlike_1 rfl hl (by decide) rfl (fun ls hl => ?_)
  have key2 : ∀ (n : Nat) (x2_3 : Int32) , lp (BX0_areAlike_2 N v_inn_house_doors p0 p1 v_fitters v_kin) n x2_3 = some z → AT p l e (rmOf 1 24) s m args below meth c E A Q 0 0 4 [(0, .ref h), (1, .int p0), (2, .int p1), (3, .int x2_3)] (wX0_areAlike E h h_trial h_inn h_dreams h_plain h_set h_tried h_kin h_fitters h_inn_house h_inn_thingIn h_inn_full h_inn_states h_inn_bed h_inn_dreamOf h_inn_listensIn h_inn_house_creak h_inn_house_cold h_inn_house_one h_inn_house_other h_inn_house_how h_inn_house_falls h_inn_house_ways v_count v_fitting v_inn_minutes v_inn_things v_inn_dreams v_inn_sleepers v_inn_listeners v_inn_house_rooms v_inn_house_doors v_fitters v_kin) 2 [] := by
    intro n
    induction n with
    | zero => intro x2_3 hf; exact (lp_0 hf).elim
    | succ n ih2 =>
      intro x2_3 hf H locs ls hl hP hD hS
      replace hf := lp_s hf
      generalize lp (BX0_areAlike_2 N v_inn_house_doors p0 p1 v_fitters v_kin) n = rec2 at ih2 hf
      unfold BX0_areAlike_2 at hf
      replace hf := un1_s hf
      refine lv_iload_n (pc := 2) hx hb dX0_areAlike_2 rfl (lv_at hl 3 rfl) ?_
      refine lv_aload_n (pc := 3) hx hb dX0_areAlike_3 rfl (lv_at hl 0 rfl) ?_
      refine r_get (pc := 4) C hP 0 rfl fl_X0_35 rfl dX0_areAlike_4 ?_
      obtain ⟨r_7, hc_7, hf⟩ := bd1 hf
      refine r_dalVi (pc := 7) (ws' := (wX0_areAlike E h h_trial h_inn h_dreams h_plain h_set h_tried h_kin h_fitters h_inn_house h_inn_thingIn h_inn_full h_inn_states h_inn_bed h_inn_dreamOf h_inn_listensIn h_inn_house_creak h_inn_house_cold h_inn_house_one h_inn_house_other h_inn_house_how h_inn_house_falls h_inn_house_ways v_count v_fitting v_inn_minutes v_inn_things v_inn_dreams v_inn_sleepers v_inn_listeners v_inn_house_rooms v_inn_house_doors v_fitters v_kin)) (As := []) (rest := [.int x2_3]) C (ctX2_settings l E h_inn h_inn_house h_inn_thingIn h_inn_full h_inn_states h_inn_bed h_inn_dreamOf h_inn_listensIn h_inn_house_creak h_inn_house_cold h_inn_house_one h_inn_house_other h_inn_house_how h_inn_house_falls h_inn_house_ways v_inn_minutes v_inn_things v_inn_dreams v_inn_sleepers v_inn_listeners v_inn_house_rooms v_inn_house_doors N r_7 hc_7) ml_X0_116 ⟨Nat.le_of_ble_eq_true rfl, Nat.le_of_ble_eq_true rfl⟩ hP hD hS 1 rfl rfl rfl [1, 2] [0, 5, 6, 3, 4] 5 rfl rfl rfl rfl rfl rfl rfl hl.1 rfl (Nat.le_of_ble_eq_true rfl) ⟨Nat.zero_le _, Nat.zero_le _⟩ dX0_areAlike_7 ?_
      clear hP hD hS; intro H locs hP hD hS
      refine lv_icmp_ge (pc := 10) (tgt := 31) hx hb dX0_areAlike_10 (by decide) (fun c_10 => ?_) (fun c_10 => ?_)
      · replace hf := it_t c_10 hf
        refine lv_iconst (pc := 31) (v := 1) hx hb dX0_areAlike_31 (by decide) ?_
        cases hf
        rw [hQ]
        exact r_zret C hr hP hD hS (Or.inr rfl) rfl dX0_areAlike_32
      · replace hf := it_f c_10 hf
        refine lv_aload_n (pc := 13) hx hb dX0_areAlike_13 rfl (lv_at hl 0 rfl) ?_
        refine lv_iload_n (pc := 14) hx hb dX0_areAlike_14 rfl (lv_at hl 1 rfl) ?_
        refine lv_iload_n (pc := 15) hx hb dX0_areAlike_15 rfl (lv_at hl 2 rfl) ?_
        refine lv_iload_n (pc := 16) hx hb dX0_areAlike_16 rfl (lv_at hl 3 rfl) ?_
        obtain ⟨r_17, hc_17, hf⟩ := bd1 hf
        refine r_dalVi (pc := 17) (ws' := (wX0_areAlike E h h_trial h_inn h_dreams h_plain h_set h_tried h_kin h_fitters h_inn_house h_inn_thingIn h_inn_full h_inn_states h_inn_bed h_inn_dreamOf h_inn_listensIn h_inn_house_creak h_inn_house_cold h_inn_house_one h_inn_house_other h_inn_house_how h_inn_house_falls h_inn_house_ways v_count v_fitting v_inn_minutes v_inn_things v_inn_dreams v_inn_sleepers v_inn_listeners v_inn_house_rooms v_inn_house_doors v_fitters v_kin)) (As := [.int p0, .int p1, .int x2_3]) (rest := []) C (ctX0_areSame l E h h_trial h_inn h_dreams h_plain h_set h_tried h_kin h_fitters v_count v_fitting v_fitters v_kin N p0 p1 x2_3 r_17 hc_17) ml_X0_104 ⟨Nat.le_of_ble_eq_true rfl, Nat.le_of_ble_eq_true rfl⟩ hP hD hS 0 rfl rfl rfl [0, 3, 4] [5, 1, 2, 6, 7] 5 rfl rfl rfl rfl rfl rfl rfl hl.1 rfl (Nat.le_of_ble_eq_true rfl) ⟨Nat.zero_le _, Nat.zero_le _⟩ dX0_areAlike_17 ?_
        clear hP hD hS; intro H locs hP hD hS
        refine lv_if_ne (pc := 20) (tgt := 25) hx hb dX0_areAlike_20 (by decide) (fun c_20 => ?_) (fun c_20 => ?_)
        · replace hf := it_f c_20 hf
          refine lv_iinc (pc := 25) (v := x2_3 + 1) (lv' := [(3, .int (x2_3 + 1)), (0, .ref h), (1, .int p0), (2, .int p1)]) hx hb dX0_areAlike_25 hl (k := 3) rfl rfl (by decide) rfl (fun ls hl => ?_)
          refine lv_goto (pc := 28) (tgt := 2) hx hb dX0_areAlike_28 (by decide) ?_
          exact ih2 (x2_3 + 1) hf _ _ _ (lv_sub hl [1, 2, 3, 0] rfl) hP hD hS
        · replace hf := it_t c_20 hf
          refine lv_iconst (pc := 23) (v := 0) hx hb dX0_areAlike_23 (by decide) ?_
          cases hf
          rw [hQ]
          exact r_zret C hr hP hD hS (Or.inl rfl) rfl dX0_areAlike_24
  exact key2 _ 0 hf _ _ _ (lv_sub hl [1, 2, 3, 0] rfl) hP hD hS
def wX10_alike (E : EN) (h h_reader h_inn h_chosen h_night h_marks h_notes h_casts h_casts_trial h_casts_dreams h_casts_plain h_casts_set h_casts_tried h_casts_kin h_casts_fitters h_notes_book h_notes_sort h_notes_one h_notes_other h_casts_plain_rows h_inn_house h_inn_thingIn h_inn_full h_inn_states h_inn_bed h_inn_dreamOf h_inn_listensIn h_inn_house_creak h_inn_house_cold h_inn_house_one h_inn_house_other h_inn_house_how h_inn_house_falls h_inn_house_ways h_casts_trial_ways h_casts_trial_how h_casts_trial_passed h_casts_trial_dreamOf h_casts_trial_stateOf h_casts_trial_roomOf h_casts_trial_handOf h_casts_trial_awake h_casts_trial_thingIn h_casts_trial_full h_casts_trial_heardBy h_casts_trial_ways_steps h_inn_house_ways_steps h_casts_set_rows : Nat) (v_marked : Int32) (v_refusal : Int32) (v_latestFault : Int32) (v_faultPlace : Int32) (v_casts_count : Int32) (v_casts_fitting : Int32) (v_notes_count : Int32) (v_notes_book : Nat → Int32) (v_notes_sort : Nat → Int32) (v_notes_one : Nat → Int32) (v_casts_plain_rows : Nat → Int64) (v_notes_other : Nat → Int32) (v_casts_fitters : Nat → Int32) (v_inn_minutes : Int32) (v_inn_things : Int32) (v_inn_dreams : Int32) (v_inn_sleepers : Int32) (v_inn_listeners : Int32) (v_inn_house_rooms : Int32) (v_inn_house_doors : Int32) (v_casts_tried : Nat → Int32) (v_casts_trial_setting : Int32) (v_casts_trial_been : Int32) (v_inn_house_how : Nat → Int32) (v_casts_trial_ways_rooms : Int32) (v_casts_trial_ways_steps : Nat → Int32) (v_inn_house_one : Nat → Int32) (v_inn_house_other : Nat → Int32) (v_inn_thingIn : Nat → Int32) (v_casts_trial_thingIn : Nat → Int32) (v_inn_full : Nat → Int32) (v_casts_trial_full : Nat → Int32) (v_casts_trial_heardBy : Nat → Int64) (v_casts_dreams : Nat → Int32) (v_casts_trial_dreamOf : Nat → Int32) (v_casts_trial_stateOf : Nat → Int32) (v_inn_bed : Nat → Int32) (v_casts_trial_roomOf : Nat → Int32) (v_casts_trial_handOf : Nat → Int32) (v_casts_trial_awake : Nat → Int32) (v_casts_trial_how : Nat → Int32) (v_casts_trial_passed : Nat → Int32) (v_inn_states : Nat → Int32) (v_inn_house_creak : Nat → Int32) (v_inn_listensIn : Nat → Int32) (v_inn_house_ways_rooms : Int32) (v_inn_house_ways_steps : Nat → Int32) (v_inn_house_cold : Nat → Int32) (v_inn_house_falls : Nat → Int32) (v_casts_set_rows : Nat → Int64) (v_casts_kin : Nat → Int32) : va_W := [(h, .inr (9, [.ref h_reader, .ref h_inn, .ref h_chosen, .ref h_night, .ref h_marks, .int v_marked, .ref h_notes, .ref h_casts, .int v_refusal, .int v_latestFault, .int v_faultPlace])), (h_casts, .inr (0, [.ref h_casts_trial, .ref h_inn, .int v_casts_count, .ref h_casts_dreams, .ref h_casts_plain, .ref h_casts_set, .ref h_casts_tried, .ref h_casts_kin, .int v_casts_fitting, .ref h_casts_fitters])), (h_notes, .inr (5, [.ref h_notes_book, .ref h_notes_sort, .ref h_notes_one, .ref h_notes_other, .int v_notes_count])), (h_notes_book, aI E 20 v_notes_book), (h_notes_sort, aI E 20 v_notes_sort), (h_notes_one, aI E 20 v_notes_one), (h_casts_plain, .inr (3, [.ref h_casts_plain_rows])), (h_casts_plain_rows, aJ E 256 v_casts_plain_rows), (h_notes_other, aI E 20 v_notes_other), (h_casts_fitters, aI E 64 v_casts_fitters), (h_inn, .inr (2, [.ref h_inn_house, .int v_inn_minutes, .int v_inn_things, .ref h_inn_thingIn, .ref h_inn_full, .int v_inn_dreams, .ref h_inn_states, .int v_inn_sleepers, .ref h_inn_bed, .ref h_inn_dreamOf, .int v_inn_listeners, .ref h_inn_listensIn])), (h_inn_house, .inr (1, [.int v_inn_house_rooms, .ref h_inn_house_creak, .ref h_inn_house_cold, .int v_inn_house_doors, .ref h_inn_house_one, .ref h_inn_house_other, .ref h_inn_house_how, .ref h_inn_house_falls, .ref h_inn_house_ways])), (h_casts_tried, aZ E 21 v_casts_tried), (h_casts_trial, .inr (4, [.ref h_inn, .int v_casts_trial_setting, .int v_casts_trial_been, .ref h_casts_trial_ways, .ref h_casts_trial_how, .ref h_casts_trial_passed, .ref h_casts_trial_dreamOf, .ref h_casts_trial_stateOf, .ref h_casts_trial_roomOf, .ref h_casts_trial_handOf, .ref h_casts_trial_awake, .ref h_casts_trial_thingIn, .ref h_casts_trial_full, .ref h_casts_trial_heardBy])), (h_inn_house_how, aI E 10 v_inn_house_how), (h_casts_trial_ways, .inr (8, [.ref h_casts_trial_ways_steps, .int v_casts_trial_ways_rooms])), (h_casts_trial_ways_steps, aI E 64 v_casts_trial_ways_steps), (h_inn_house_one, aI E 10 v_inn_house_one), (h_inn_house_other, aI E 10 v_inn_house_other), (h_inn_thingIn, aI E 4 v_inn_thingIn), (h_casts_trial_thingIn, aI E 4 v_casts_trial_thingIn), (h_inn_full, aZ E 4 v_inn_full), (h_casts_trial_full, aZ E 4 v_casts_trial_full), (h_casts_trial_heardBy, aJ E 3 v_casts_trial_heardBy), (h_casts_dreams, aI E 192 v_casts_dreams), (h_casts_trial_dreamOf, aI E 3 v_casts_trial_dreamOf), (h_casts_trial_stateOf, aI E 3 v_casts_trial_stateOf), (h_inn_bed, aI E 3 v_inn_bed), (h_casts_trial_roomOf, aI E 3 v_casts_trial_roomOf), (h_casts_trial_handOf, aI E 3 v_casts_trial_handOf), (h_casts_trial_awake, aZ E 3 v_casts_trial_awake), (h_casts_trial_how, aI E 10 v_casts_trial_how), (h_casts_trial_passed, aI E 10 v_casts_trial_passed), (h_inn_states, aI E 64 v_inn_states), (h_inn_house_creak, aI E 8 v_inn_house_creak), (h_inn_listensIn, aI E 3 v_inn_listensIn), (h_inn_house_ways, .inr (8, [.ref h_inn_house_ways_steps, .int v_inn_house_ways_rooms])), (h_inn_house_ways_steps, aI E 64 v_inn_house_ways_steps), (h_inn_house_cold, aZ E 8 v_inn_house_cold), (h_inn_house_falls, aZ E 10 v_inn_house_falls), (h_casts_set, .inr (3, [.ref h_casts_set_rows])), (h_casts_set_rows, aJ E 256 v_casts_set_rows), (h_casts_kin, aI E 1344 v_casts_kin)]
def fX10_alike (N : Nat) (p0 : Int32) (p1 : Int32) (v_casts_count : Int32) (v_notes_count : Int32) (v_notes_book : Nat → Int32) (v_notes_sort : Nat → Int32) (v_notes_one : Nat → Int32) (v_casts_plain_rows : Nat → Int64) (v_notes_other : Nat → Int32) (v_casts_fitters : Nat → Int32) (v_inn_minutes : Int32) (v_inn_things : Int32) (v_inn_sleepers : Int32) (v_inn_listeners : Int32) (v_inn_house_rooms : Int32) (v_inn_house_doors : Int32) (v_casts_tried : Nat → Int32) (v_casts_trial_setting : Int32) (v_casts_trial_been : Int32) (v_inn_house_how : Nat → Int32) (v_casts_trial_ways_rooms : Int32) (v_casts_trial_ways_steps : Nat → Int32) (v_inn_house_one : Nat → Int32) (v_inn_house_other : Nat → Int32) (v_inn_thingIn : Nat → Int32) (v_casts_trial_thingIn : Nat → Int32) (v_inn_full : Nat → Int32) (v_casts_trial_full : Nat → Int32) (v_casts_trial_heardBy : Nat → Int64) (v_casts_dreams : Nat → Int32) (v_casts_trial_dreamOf : Nat → Int32) (v_casts_trial_stateOf : Nat → Int32) (v_inn_bed : Nat → Int32) (v_casts_trial_roomOf : Nat → Int32) (v_casts_trial_handOf : Nat → Int32) (v_casts_trial_awake : Nat → Int32) (v_casts_trial_how : Nat → Int32) (v_casts_trial_passed : Nat → Int32) (v_inn_states : Nat → Int32) (v_inn_house_creak : Nat → Int32) (v_inn_listensIn : Nat → Int32) (v_inn_house_ways_steps : Nat → Int32) (v_inn_house_cold : Nat → Int32) (v_inn_house_falls : Nat → Int32) (v_casts_set_rows : Nat → Int64) (v_casts_kin : Nat → Int32) : Option (Int32 × Int32 × Int32 × (Nat → Int64) × (Nat → Int32) × (Nat → Int32) × Int32 × Int32 × Int32 × (Nat → Int32) × (Nat → Int32) × (Nat → Int32) × (Nat → Int64) × (Nat → Int32) × (Nat → Int32) × (Nat → Int32) × (Nat → Int32) × (Nat → Int32) × (Nat → Int32) × (Nat → Int32) × (Nat → Int64) × (Nat → Int32)) := (fX0_gather N 3 v_casts_count v_notes_count v_notes_book v_notes_sort v_notes_one v_casts_plain_rows v_notes_other v_casts_fitters).bind (un3 fun (r_9 : Int32) (v_casts_fitting_9 : Int32) (v_casts_fitters_9 : Nat → Int32) => (fX10_isBelow N p0 r_9).bind (un1 fun (r_15 : Int32) => if r_15 = 0 then ((fX10_refuse N 1).bind (un2 fun (r_36 : Int32) (v_refusal_36 : Int32) => some (r_36, v_refusal_36, v_casts_fitting_9, v_casts_plain_rows, v_casts_fitters_9, v_casts_tried, v_casts_trial_setting, v_casts_trial_been, v_casts_trial_ways_rooms, v_casts_trial_ways_steps, v_casts_trial_thingIn, v_casts_trial_full, v_casts_trial_heardBy, v_casts_trial_dreamOf, v_casts_trial_stateOf, v_casts_trial_roomOf, v_casts_trial_handOf, v_casts_trial_awake, v_casts_trial_how, v_casts_trial_passed, v_casts_set_rows, v_casts_kin))) else ((fX10_isBelow N p1 r_9).bind (un1 fun (r_23 : Int32) => if r_23 = 0 then ((fX10_refuse N 1).bind (un2 fun (r_36 : Int32) (v_refusal_36 : Int32) => some (r_36, v_refusal_36, v_casts_fitting_9, v_casts_plain_rows, v_casts_fitters_9, v_casts_tried, v_casts_trial_setting, v_casts_trial_been, v_casts_trial_ways_rooms, v_casts_trial_ways_steps, v_casts_trial_thingIn, v_casts_trial_full, v_casts_trial_heardBy, v_casts_trial_dreamOf, v_casts_trial_stateOf, v_casts_trial_roomOf, v_casts_trial_handOf, v_casts_trial_awake, v_casts_trial_how, v_casts_trial_passed, v_casts_set_rows, v_casts_kin))) else (if p0 = p1 then ((fX10_refuse N 1).bind (un2 fun (r_36 : Int32) (v_refusal_36 : Int32) => some (r_36, v_refusal_36, v_casts_fitting_9, v_casts_plain_rows, v_casts_fitters_9, v_casts_tried, v_casts_trial_setting, v_casts_trial_been, v_casts_trial_ways_rooms, v_casts_trial_ways_steps, v_casts_trial_thingIn, v_casts_trial_full, v_casts_trial_heardBy, v_casts_trial_dreamOf, v_casts_trial_stateOf, v_casts_trial_roomOf, v_casts_trial_handOf, v_casts_trial_awake, v_casts_trial_how, v_casts_trial_passed, v_casts_set_rows, v_casts_kin))) else ((fX2_settings N v_inn_house_doors).bind (un1 fun (r_49 : Int32) => (fX0_tryOuts N 0 (r_49 - 1) v_casts_count v_casts_tried v_casts_trial_setting v_casts_trial_been v_inn_minutes v_inn_things v_inn_sleepers v_inn_listeners v_inn_house_rooms v_inn_house_doors v_inn_house_how v_casts_trial_ways_rooms v_casts_trial_ways_steps v_inn_house_one v_inn_house_other v_inn_thingIn v_casts_trial_thingIn v_inn_full v_casts_trial_full v_casts_trial_heardBy v_casts_dreams v_casts_trial_dreamOf v_casts_trial_stateOf v_inn_bed v_casts_trial_roomOf v_casts_trial_handOf v_casts_trial_awake v_casts_trial_how v_casts_trial_passed v_inn_states v_inn_house_creak v_inn_listensIn v_inn_house_ways_steps v_inn_house_cold v_inn_house_falls v_casts_set_rows v_casts_kin v_casts_plain_rows).bind (un18 fun (v_casts_tried_54 : Nat → Int32) (v_casts_trial_setting_54 : Int32) (v_casts_trial_been_54 : Int32) (v_casts_trial_ways_rooms_54 : Int32) (v_casts_trial_ways_steps_54 : Nat → Int32) (v_casts_trial_thingIn_54 : Nat → Int32) (v_casts_trial_full_54 : Nat → Int32) (v_casts_trial_heardBy_54 : Nat → Int64) (v_casts_trial_dreamOf_54 : Nat → Int32) (v_casts_trial_stateOf_54 : Nat → Int32) (v_casts_trial_roomOf_54 : Nat → Int32) (v_casts_trial_handOf_54 : Nat → Int32) (v_casts_trial_awake_54 : Nat → Int32) (v_casts_trial_how_54 : Nat → Int32) (v_casts_trial_passed_54 : Nat → Int32) (v_casts_set_rows_54 : Nat → Int64) (v_casts_kin_54 : Nat → Int32) (v_casts_plain_rows_54 : Nat → Int64) => (fX0_areAlike N p0 p1 v_inn_house_doors v_casts_fitters_9 v_casts_kin_54).bind (un1 fun (r_64 : Int32) => (fX10_bit N r_64).bind (un1 fun (r_67 : Int32) => (fX10_answer N r_67).bind (un2 fun (r_70 : Int32) (v_refusal_70 : Int32) => some (r_70, v_refusal_70, v_casts_fitting_9, v_casts_plain_rows_54, v_casts_fitters_9, v_casts_tried_54, v_casts_trial_setting_54, v_casts_trial_been_54, v_casts_trial_ways_rooms_54, v_casts_trial_ways_steps_54, v_casts_trial_thingIn_54, v_casts_trial_full_54, v_casts_trial_heardBy_54, v_casts_trial_dreamOf_54, v_casts_trial_stateOf_54, v_casts_trial_roomOf_54, v_casts_trial_handOf_54, v_casts_trial_awake_54, v_casts_trial_how_54, v_casts_trial_passed_54, v_casts_set_rows_54, v_casts_kin_54))))))))))))
set_option maxHeartbeats 4000000 in
set_option maxRecDepth 100000 in
theorem ctX10_alike (l : Launch) (E : EN) (h h_reader h_inn h_chosen h_night h_marks h_notes h_casts h_casts_trial h_casts_dreams h_casts_plain h_casts_set h_casts_tried h_casts_kin h_casts_fitters h_notes_book h_notes_sort h_notes_one h_notes_other h_casts_plain_rows h_inn_house h_inn_thingIn h_inn_full h_inn_states h_inn_bed h_inn_dreamOf h_inn_listensIn h_inn_house_creak h_inn_house_cold h_inn_house_one h_inn_house_other h_inn_house_how h_inn_house_falls h_inn_house_ways h_casts_trial_ways h_casts_trial_how h_casts_trial_passed h_casts_trial_dreamOf h_casts_trial_stateOf h_casts_trial_roomOf h_casts_trial_handOf h_casts_trial_awake h_casts_trial_thingIn h_casts_trial_full h_casts_trial_heardBy h_casts_trial_ways_steps h_inn_house_ways_steps h_casts_set_rows : Nat) (v_marked : Int32) (v_refusal : Int32) (v_latestFault : Int32) (v_faultPlace : Int32) (v_casts_count : Int32) (v_casts_fitting : Int32) (v_notes_count : Int32) (v_notes_book : Nat → Int32) (v_notes_sort : Nat → Int32) (v_notes_one : Nat → Int32) (v_casts_plain_rows : Nat → Int64) (v_notes_other : Nat → Int32) (v_casts_fitters : Nat → Int32) (v_inn_minutes : Int32) (v_inn_things : Int32) (v_inn_dreams : Int32) (v_inn_sleepers : Int32) (v_inn_listeners : Int32) (v_inn_house_rooms : Int32) (v_inn_house_doors : Int32) (v_casts_tried : Nat → Int32) (v_casts_trial_setting : Int32) (v_casts_trial_been : Int32) (v_inn_house_how : Nat → Int32) (v_casts_trial_ways_rooms : Int32) (v_casts_trial_ways_steps : Nat → Int32) (v_inn_house_one : Nat → Int32) (v_inn_house_other : Nat → Int32) (v_inn_thingIn : Nat → Int32) (v_casts_trial_thingIn : Nat → Int32) (v_inn_full : Nat → Int32) (v_casts_trial_full : Nat → Int32) (v_casts_trial_heardBy : Nat → Int64) (v_casts_dreams : Nat → Int32) (v_casts_trial_dreamOf : Nat → Int32) (v_casts_trial_stateOf : Nat → Int32) (v_inn_bed : Nat → Int32) (v_casts_trial_roomOf : Nat → Int32) (v_casts_trial_handOf : Nat → Int32) (v_casts_trial_awake : Nat → Int32) (v_casts_trial_how : Nat → Int32) (v_casts_trial_passed : Nat → Int32) (v_inn_states : Nat → Int32) (v_inn_house_creak : Nat → Int32) (v_inn_listensIn : Nat → Int32) (v_inn_house_ways_rooms : Int32) (v_inn_house_ways_steps : Nat → Int32) (v_inn_house_cold : Nat → Int32) (v_inn_house_falls : Nat → Int32) (v_casts_set_rows : Nat → Int64) (v_casts_kin : Nat → Int32) (N : Nat) (p0 : Int32) (p1 : Int32) (z : Int32 × Int32 × Int32 × (Nat → Int64) × (Nat → Int32) × (Nat → Int32) × Int32 × Int32 × Int32 × (Nat → Int32) × (Nat → Int32) × (Nat → Int32) × (Nat → Int64) × (Nat → Int32) × (Nat → Int32) × (Nat → Int32) × (Nat → Int32) × (Nat → Int32) × (Nat → Int32) × (Nat → Int32) × (Nat → Int64) × (Nat → Int32)) (hf : fX10_alike N p0 p1 v_casts_count v_notes_count v_notes_book v_notes_sort v_notes_one v_casts_plain_rows v_notes_other v_casts_fitters v_inn_minutes v_inn_things v_inn_sleepers v_inn_listeners v_inn_house_rooms v_inn_house_doors v_casts_tried v_casts_trial_setting v_casts_trial_been v_inn_house_how v_casts_trial_ways_rooms v_casts_trial_ways_steps v_inn_house_one v_inn_house_other v_inn_thingIn v_casts_trial_thingIn v_inn_full v_casts_trial_full v_casts_trial_heardBy v_casts_dreams v_casts_trial_dreamOf v_casts_trial_stateOf v_inn_bed v_casts_trial_roomOf v_casts_trial_handOf v_casts_trial_awake v_casts_trial_how v_casts_trial_passed v_inn_states v_inn_house_creak v_inn_listensIn v_inn_house_ways_steps v_inn_house_cold v_inn_house_falls v_casts_set_rows v_casts_kin = some z) : CTi l E yX10_alike cX10_alike 4 .int 6 144 [.ref h, .int p0, .int p1] (wX10_alike E h h_reader h_inn h_chosen h_night h_marks h_notes h_casts h_casts_trial h_casts_dreams h_casts_plain h_casts_set h_casts_tried h_casts_kin h_casts_fitters h_notes_book h_notes_sort h_notes_one h_notes_other h_casts_plain_rows h_inn_house h_inn_thingIn h_inn_full h_inn_states h_inn_bed h_inn_dreamOf h_inn_listensIn h_inn_house_creak h_inn_house_cold h_inn_house_one h_inn_house_other h_inn_house_how h_inn_house_falls h_inn_house_ways h_casts_trial_ways h_casts_trial_how h_casts_trial_passed h_casts_trial_dreamOf h_casts_trial_stateOf h_casts_trial_roomOf h_casts_trial_handOf h_casts_trial_awake h_casts_trial_thingIn h_casts_trial_full h_casts_trial_heardBy h_casts_trial_ways_steps h_inn_house_ways_steps h_casts_set_rows v_marked v_refusal v_latestFault v_faultPlace v_casts_count v_casts_fitting v_notes_count v_notes_book v_notes_sort v_notes_one v_casts_plain_rows v_notes_other v_casts_fitters v_inn_minutes v_inn_things v_inn_dreams v_inn_sleepers v_inn_listeners v_inn_house_rooms v_inn_house_doors v_casts_tried v_casts_trial_setting v_casts_trial_been v_inn_house_how v_casts_trial_ways_rooms v_casts_trial_ways_steps v_inn_house_one v_inn_house_other v_inn_thingIn v_casts_trial_thingIn v_inn_full v_casts_trial_full v_casts_trial_heardBy v_casts_dreams v_casts_trial_dreamOf v_casts_trial_stateOf v_inn_bed v_casts_trial_roomOf v_casts_trial_handOf v_casts_trial_awake v_casts_trial_how v_casts_trial_passed v_inn_states v_inn_house_creak v_inn_listensIn v_inn_house_ways_rooms v_inn_house_ways_steps v_inn_house_cold v_inn_house_falls v_casts_set_rows v_casts_kin) (z.1) (wX10_alike E h h_reader h_inn h_chosen h_night h_marks h_notes h_casts h_casts_trial h_casts_dreams h_casts_plain h_casts_set h_casts_tried h_casts_kin h_casts_fitters h_notes_book h_notes_sort h_notes_one h_notes_other h_casts_plain_rows h_inn_house h_inn_thingIn h_inn_full h_inn_states h_inn_bed h_inn_dreamOf h_inn_listensIn h_inn_house_creak h_inn_house_cold h_inn_house_one h_inn_house_other h_inn_house_how h_inn_house_falls h_inn_house_ways h_casts_trial_ways h_casts_trial_how h_casts_trial_passed h_casts_trial_dreamOf h_casts_trial_stateOf h_casts_trial_roomOf h_casts_trial_handOf h_casts_trial_awake h_casts_trial_thingIn h_casts_trial_full h_casts_trial_heardBy h_casts_trial_ways_steps h_inn_house_ways_steps h_casts_set_rows v_marked z.2.1 v_latestFault v_faultPlace v_casts_count z.2.2.1 v_notes_count v_notes_book v_notes_sort v_notes_one z.2.2.2.1 v_notes_other z.2.2.2.2.1 v_inn_minutes v_inn_things v_inn_dreams v_inn_sleepers v_inn_listeners v_inn_house_rooms v_inn_house_doors z.2.2.2.2.2.1 z.2.2.2.2.2.2.1 z.2.2.2.2.2.2.2.1 v_inn_house_how z.2.2.2.2.2.2.2.2.1 z.2.2.2.2.2.2.2.2.2.1 v_inn_house_one v_inn_house_other v_inn_thingIn z.2.2.2.2.2.2.2.2.2.2.1 v_inn_full z.2.2.2.2.2.2.2.2.2.2.2.1 z.2.2.2.2.2.2.2.2.2.2.2.2.1 v_casts_dreams z.2.2.2.2.2.2.2.2.2.2.2.2.2.1 z.2.2.2.2.2.2.2.2.2.2.2.2.2.2.1 v_inn_bed z.2.2.2.2.2.2.2.2.2.2.2.2.2.2.2.1 z.2.2.2.2.2.2.2.2.2.2.2.2.2.2.2.2.1 z.2.2.2.2.2.2.2.2.2.2.2.2.2.2.2.2.2.1 z.2.2.2.2.2.2.2.2.2.2.2.2.2.2.2.2.2.2.1 z.2.2.2.2.2.2.2.2.2.2.2.2.2.2.2.2.2.2.2.1 v_inn_states v_inn_house_creak v_inn_listensIn v_inn_house_ways_rooms v_inn_house_ways_steps v_inn_house_cold v_inn_house_falls z.2.2.2.2.2.2.2.2.2.2.2.2.2.2.2.2.2.2.2.2.1 z.2.2.2.2.2.2.2.2.2.2.2.2.2.2.2.2.2.2.2.2.2) := by
  intro sz
  refine ct_body (by decide) (Nat.le_of_ble_eq_true rfl) ?_
  intro p e s m args below meth c A ls hAe C hr hin hP hD hS hl
  have C : CX p s m args meth c cX10_alike RX10 4 E A := C
  have hl : lv_has ls 4 [(0, .ref h), (1, .int p0), (2, .int p1)] := hl
  have hx := C.1
  have hb := C.2.1
  rw [hAe]
  clear hAe
  obtain ⟨Q, hQ⟩ : ∃ Q, Q = MQ below (Qi E A (z.1) (wX10_alike E h h_reader h_inn h_chosen h_night h_marks h_notes h_casts h_casts_trial h_casts_dreams h_casts_plain h_casts_set h_casts_tried h_casts_kin h_casts_fitters h_notes_book h_notes_sort h_notes_one h_notes_other h_casts_plain_rows h_inn_house h_inn_thingIn h_inn_full h_inn_states h_inn_bed h_inn_dreamOf h_inn_listensIn h_inn_house_creak h_inn_house_cold h_inn_house_one h_inn_house_other h_inn_house_how h_inn_house_falls h_inn_house_ways h_casts_trial_ways h_casts_trial_how h_casts_trial_passed h_casts_trial_dreamOf h_casts_trial_stateOf h_casts_trial_roomOf h_casts_trial_handOf h_casts_trial_awake h_casts_trial_thingIn h_casts_trial_full h_casts_trial_heardBy h_casts_trial_ways_steps h_inn_house_ways_steps h_casts_set_rows v_marked z.2.1 v_latestFault v_faultPlace v_casts_count z.2.2.1 v_notes_count v_notes_book v_notes_sort v_notes_one z.2.2.2.1 v_notes_other z.2.2.2.2.1 v_inn_minutes v_inn_things v_inn_dreams v_inn_sleepers v_inn_listeners v_inn_house_rooms v_inn_house_doors z.2.2.2.2.2.1 z.2.2.2.2.2.2.1 z.2.2.2.2.2.2.2.1 v_inn_house_how z.2.2.2.2.2.2.2.2.1 z.2.2.2.2.2.2.2.2.2.1 v_inn_house_one v_inn_house_other v_inn_thingIn z.2.2.2.2.2.2.2.2.2.2.1 v_inn_full z.2.2.2.2.2.2.2.2.2.2.2.1 z.2.2.2.2.2.2.2.2.2.2.2.2.1 v_casts_dreams z.2.2.2.2.2.2.2.2.2.2.2.2.2.1 z.2.2.2.2.2.2.2.2.2.2.2.2.2.2.1 v_inn_bed z.2.2.2.2.2.2.2.2.2.2.2.2.2.2.2.1 z.2.2.2.2.2.2.2.2.2.2.2.2.2.2.2.2.1 z.2.2.2.2.2.2.2.2.2.2.2.2.2.2.2.2.2.1 z.2.2.2.2.2.2.2.2.2.2.2.2.2.2.2.2.2.2.1 z.2.2.2.2.2.2.2.2.2.2.2.2.2.2.2.2.2.2.2.1 v_inn_states v_inn_house_creak v_inn_listensIn v_inn_house_ways_rooms v_inn_house_ways_steps v_inn_house_cold v_inn_house_falls z.2.2.2.2.2.2.2.2.2.2.2.2.2.2.2.2.2.2.2.2.1 z.2.2.2.2.2.2.2.2.2.2.2.2.2.2.2.2.2.2.2.2.2)) args s 0 0 A := ⟨_, rfl⟩
  rw [← hQ]
  unfold fX10_alike at hf
  refine lv_aload_n (pc := 0) hx hb dX10_alike_0 rfl (lv_at hl 0 rfl) ?_
  refine r_get (pc := 1) C hP 0 rfl fl_X10_50 rfl dX10_alike_1 ?_
  refine lv_aload_n (pc := 4) hx hb dX10_alike_4 rfl (lv_at hl 0 rfl) ?_
  refine r_get (pc := 5) C hP 0 rfl fl_X10_43 rfl dX10_alike_5 ?_
  refine lv_iconst (pc := 8) (v := 3) hx hb dX10_alike_8 (by decide) ?_
  obtain ⟨r_9, v_casts_fitting_9, v_casts_fitters_9, hc_9, hf⟩ := bd3 hf
  refine r_dalVi (pc := 9) (ws' := (wX10_alike E h h_reader h_inn h_chosen h_night h_marks h_notes h_casts h_casts_trial h_casts_dreams h_casts_plain h_casts_set h_casts_tried h_casts_kin h_casts_fitters h_notes_book h_notes_sort h_notes_one h_notes_other h_casts_plain_rows h_inn_house h_inn_thingIn h_inn_full h_inn_states h_inn_bed h_inn_dreamOf h_inn_listensIn h_inn_house_creak h_inn_house_cold h_inn_house_one h_inn_house_other h_inn_house_how h_inn_house_falls h_inn_house_ways h_casts_trial_ways h_casts_trial_how h_casts_trial_passed h_casts_trial_dreamOf h_casts_trial_stateOf h_casts_trial_roomOf h_casts_trial_handOf h_casts_trial_awake h_casts_trial_thingIn h_casts_trial_full h_casts_trial_heardBy h_casts_trial_ways_steps h_inn_house_ways_steps h_casts_set_rows v_marked v_refusal v_latestFault v_faultPlace v_casts_count v_casts_fitting_9 v_notes_count v_notes_book v_notes_sort v_notes_one v_casts_plain_rows v_notes_other v_casts_fitters_9 v_inn_minutes v_inn_things v_inn_dreams v_inn_sleepers v_inn_listeners v_inn_house_rooms v_inn_house_doors v_casts_tried v_casts_trial_setting v_casts_trial_been v_inn_house_how v_casts_trial_ways_rooms v_casts_trial_ways_steps v_inn_house_one v_inn_house_other v_inn_thingIn v_casts_trial_thingIn v_inn_full v_casts_trial_full v_casts_trial_heardBy v_casts_dreams v_casts_trial_dreamOf v_casts_trial_stateOf v_inn_bed v_casts_trial_roomOf v_casts_trial_handOf v_casts_trial_awake v_casts_trial_how v_casts_trial_passed v_inn_states v_inn_house_creak v_inn_listensIn v_inn_house_ways_rooms v_inn_house_ways_steps v_inn_house_cold v_inn_house_falls v_casts_set_rows v_casts_kin)) (As := [.ref h_notes, .int 3]) (rest := []) C (ctX0_gather l E h_casts h_casts_trial h_inn h_casts_dreams h_casts_plain h_casts_set h_casts_tried h_casts_kin h_casts_fitters h_notes h_notes_book h_notes_sort h_notes_one h_notes_other h_casts_plain_rows v_casts_count v_casts_fitting v_notes_count v_notes_book v_notes_sort v_notes_one v_casts_plain_rows v_notes_other v_casts_fitters N 3 (r_9, v_casts_fitting_9, v_casts_fitters_9) hc_9) ml_X10_262 ⟨Nat.le_of_ble_eq_true rfl, Nat.le_of_ble_eq_true rfl⟩ hP hD hS 1 rfl rfl rfl [1, 2, 3, 4, 5, 6, 7, 8, 9] [0, 43, 44, 45, 46, 47, 48, 49, 50, 51, 10, 11, 12, 13, 14, 15, 16, 17, 18, 19, 20, 21, 22, 23, 24, 25, 26, 27, 28, 29, 30, 31, 32, 33, 34, 35, 36, 37, 38, 39, 40, 41, 42] 43 rfl rfl rfl rfl rfl rfl rfl hl.1 rfl (Nat.le_of_ble_eq_true rfl) ⟨Nat.zero_le _, Nat.zero_le _⟩ dX10_alike_9 ?_
  clear hP hD hS; intro H locs hP hD hS
  refine lv_istore_n (pc := 12) (lv' := [(3, .int r_9), (0, .ref h), (1, .int p0), (2, .int p1)]) hx hb dX10_alike_12 rfl hl (by decide) rfl (fun ls hl => ?_)
  refine lv_iload_n (pc := 13) hx hb dX10_alike_13 rfl (lv_at hl 2 rfl) ?_
  refine lv_iload_n (pc := 14) hx hb dX10_alike_14 rfl (lv_at hl 0 rfl) ?_
  obtain ⟨r_15, hc_15, hf⟩ := bd1 hf
  refine r_dalSi (pc := 15) (Cn := "") (h := 0) (ws' := (wX10_alike E h h_reader h_inn h_chosen h_night h_marks h_notes h_casts h_casts_trial h_casts_dreams h_casts_plain h_casts_set h_casts_tried h_casts_kin h_casts_fitters h_notes_book h_notes_sort h_notes_one h_notes_other h_casts_plain_rows h_inn_house h_inn_thingIn h_inn_full h_inn_states h_inn_bed h_inn_dreamOf h_inn_listensIn h_inn_house_creak h_inn_house_cold h_inn_house_one h_inn_house_other h_inn_house_how h_inn_house_falls h_inn_house_ways h_casts_trial_ways h_casts_trial_how h_casts_trial_passed h_casts_trial_dreamOf h_casts_trial_stateOf h_casts_trial_roomOf h_casts_trial_handOf h_casts_trial_awake h_casts_trial_thingIn h_casts_trial_full h_casts_trial_heardBy h_casts_trial_ways_steps h_inn_house_ways_steps h_casts_set_rows v_marked v_refusal v_latestFault v_faultPlace v_casts_count v_casts_fitting_9 v_notes_count v_notes_book v_notes_sort v_notes_one v_casts_plain_rows v_notes_other v_casts_fitters_9 v_inn_minutes v_inn_things v_inn_dreams v_inn_sleepers v_inn_listeners v_inn_house_rooms v_inn_house_doors v_casts_tried v_casts_trial_setting v_casts_trial_been v_inn_house_how v_casts_trial_ways_rooms v_casts_trial_ways_steps v_inn_house_one v_inn_house_other v_inn_thingIn v_casts_trial_thingIn v_inn_full v_casts_trial_full v_casts_trial_heardBy v_casts_dreams v_casts_trial_dreamOf v_casts_trial_stateOf v_inn_bed v_casts_trial_roomOf v_casts_trial_handOf v_casts_trial_awake v_casts_trial_how v_casts_trial_passed v_inn_states v_inn_house_creak v_inn_listensIn v_inn_house_ways_rooms v_inn_house_ways_steps v_inn_house_cold v_inn_house_falls v_casts_set_rows v_casts_kin)) (As := [.int p0, .int r_9]) (rest := []) C (ctX10_isBelow l E N p0 r_9 r_15 hc_15) ml_X10_121 ⟨Nat.le_of_ble_eq_true rfl, Nat.le_of_ble_eq_true rfl⟩ hP hD hS [] [0, 1, 2, 3, 4, 5, 6, 7, 8, 9, 10, 11, 12, 13, 14, 15, 16, 17, 18, 19, 20, 21, 22, 23, 24, 25, 26, 27, 28, 29, 30, 31, 32, 33, 34, 35, 36, 37, 38, 39, 40, 41, 42] 43 rfl rfl rfl rfl rfl rfl rfl hl.1 rfl (Nat.le_of_ble_eq_true rfl) ⟨Nat.zero_le _, Nat.zero_le _⟩ dX10_alike_15 ?_
  clear hP hD hS; intro H locs hP hD hS
  refine lv_if_eq (pc := 18) (tgt := 34) hx hb dX10_alike_18 (by decide) (fun c_18 => ?_) (fun c_18 => ?_)
  · replace hf := it_t c_18 hf
    refine lv_aload_n (pc := 34) hx hb dX10_alike_34 rfl (lv_at hl 1 rfl) ?_
    refine lv_iconst (pc := 35) (v := 1) hx hb dX10_alike_35 (by decide) ?_
    obtain ⟨r_36, v_refusal_36, hc_36, hf⟩ := bd2 hf
    refine r_dalVi (pc := 36) (ws' := (wX10_alike E h h_reader h_inn h_chosen h_night h_marks h_notes h_casts h_casts_trial h_casts_dreams h_casts_plain h_casts_set h_casts_tried h_casts_kin h_casts_fitters h_notes_book h_notes_sort h_notes_one h_notes_other h_casts_plain_rows h_inn_house h_inn_thingIn h_inn_full h_inn_states h_inn_bed h_inn_dreamOf h_inn_listensIn h_inn_house_creak h_inn_house_cold h_inn_house_one h_inn_house_other h_inn_house_how h_inn_house_falls h_inn_house_ways h_casts_trial_ways h_casts_trial_how h_casts_trial_passed h_casts_trial_dreamOf h_casts_trial_stateOf h_casts_trial_roomOf h_casts_trial_handOf h_casts_trial_awake h_casts_trial_thingIn h_casts_trial_full h_casts_trial_heardBy h_casts_trial_ways_steps h_inn_house_ways_steps h_casts_set_rows v_marked v_refusal_36 v_latestFault v_faultPlace v_casts_count v_casts_fitting_9 v_notes_count v_notes_book v_notes_sort v_notes_one v_casts_plain_rows v_notes_other v_casts_fitters_9 v_inn_minutes v_inn_things v_inn_dreams v_inn_sleepers v_inn_listeners v_inn_house_rooms v_inn_house_doors v_casts_tried v_casts_trial_setting v_casts_trial_been v_inn_house_how v_casts_trial_ways_rooms v_casts_trial_ways_steps v_inn_house_one v_inn_house_other v_inn_thingIn v_casts_trial_thingIn v_inn_full v_casts_trial_full v_casts_trial_heardBy v_casts_dreams v_casts_trial_dreamOf v_casts_trial_stateOf v_inn_bed v_casts_trial_roomOf v_casts_trial_handOf v_casts_trial_awake v_casts_trial_how v_casts_trial_passed v_inn_states v_inn_house_creak v_inn_listensIn v_inn_house_ways_rooms v_inn_house_ways_steps v_inn_house_cold v_inn_house_falls v_casts_set_rows v_casts_kin)) (As := [.int 1]) (rest := []) C (ctX10_refuse l E h h_reader h_inn h_chosen h_night h_marks h_notes h_casts v_marked v_refusal v_latestFault v_faultPlace N 1 (r_36, v_refusal_36) hc_36) ml_X10_68 ⟨Nat.le_of_ble_eq_true rfl, Nat.le_of_ble_eq_true rfl⟩ hP hD hS 0 rfl rfl rfl [0] [43, 1, 2, 3, 4, 5, 6, 7, 8, 9, 10, 11, 12, 13, 14, 15, 16, 17, 18, 19, 20, 21, 22, 23, 24, 25, 26, 27, 28, 29, 30, 31, 32, 33, 34, 35, 36, 37, 38, 39, 40, 41, 42] 43 rfl rfl rfl rfl rfl rfl rfl hl.1 rfl (Nat.le_of_ble_eq_true rfl) ⟨Nat.zero_le _, Nat.zero_le _⟩ dX10_alike_36 ?_
    clear hP hD hS; intro H locs hP hD hS
    cases hf
    rw [hQ]
    exact r_iret C hr hP hD hS rfl dX10_alike_39
  · replace hf := it_f c_18 hf
    refine lv_iload_n (pc := 21) hx hb dX10_alike_21 rfl (lv_at hl 3 rfl) ?_
    refine lv_iload_n (pc := 22) hx hb dX10_alike_22 rfl (lv_at hl 0 rfl) ?_
    obtain ⟨r_23, hc_23, hf⟩ := bd1 hf
    refine r_dalSi (pc := 23) (Cn := "") (h := 0) (ws' := (wX10_alike E h h_reader h_inn h_chosen h_night h_marks h_notes h_casts h_casts_trial h_casts_dreams h_casts_plain h_casts_set h_casts_tried h_casts_kin h_casts_fitters h_notes_book h_notes_sort h_notes_one h_notes_other h_casts_plain_rows h_inn_house h_inn_thingIn h_inn_full h_inn_states h_inn_bed h_inn_dreamOf h_inn_listensIn h_inn_house_creak h_inn_house_cold h_inn_house_one h_inn_house_other h_inn_house_how h_inn_house_falls h_inn_house_ways h_casts_trial_ways h_casts_trial_how h_casts_trial_passed h_casts_trial_dreamOf h_casts_trial_stateOf h_casts_trial_roomOf h_casts_trial_handOf h_casts_trial_awake h_casts_trial_thingIn h_casts_trial_full h_casts_trial_heardBy h_casts_trial_ways_steps h_inn_house_ways_steps h_casts_set_rows v_marked v_refusal v_latestFault v_faultPlace v_casts_count v_casts_fitting_9 v_notes_count v_notes_book v_notes_sort v_notes_one v_casts_plain_rows v_notes_other v_casts_fitters_9 v_inn_minutes v_inn_things v_inn_dreams v_inn_sleepers v_inn_listeners v_inn_house_rooms v_inn_house_doors v_casts_tried v_casts_trial_setting v_casts_trial_been v_inn_house_how v_casts_trial_ways_rooms v_casts_trial_ways_steps v_inn_house_one v_inn_house_other v_inn_thingIn v_casts_trial_thingIn v_inn_full v_casts_trial_full v_casts_trial_heardBy v_casts_dreams v_casts_trial_dreamOf v_casts_trial_stateOf v_inn_bed v_casts_trial_roomOf v_casts_trial_handOf v_casts_trial_awake v_casts_trial_how v_casts_trial_passed v_inn_states v_inn_house_creak v_inn_listensIn v_inn_house_ways_rooms v_inn_house_ways_steps v_inn_house_cold v_inn_house_falls v_casts_set_rows v_casts_kin)) (As := [.int p1, .int r_9]) (rest := []) C (ctX10_isBelow l E N p1 r_9 r_23 hc_23) ml_X10_121 ⟨Nat.le_of_ble_eq_true rfl, Nat.le_of_ble_eq_true rfl⟩ hP hD hS [] [0, 1, 2, 3, 4, 5, 6, 7, 8, 9, 10, 11, 12, 13, 14, 15, 16, 17, 18, 19, 20, 21, 22, 23, 24, 25, 26, 27, 28, 29, 30, 31, 32, 33, 34, 35, 36, 37, 38, 39, 40, 41, 42] 43 rfl rfl rfl rfl rfl rfl rfl hl.1 rfl (Nat.le_of_ble_eq_true rfl) ⟨Nat.zero_le _, Nat.zero_le _⟩ dX10_alike_23 ?_
    clear hP hD hS; intro H locs hP hD hS
    refine lv_if_eq (pc := 26) (tgt := 34) hx hb dX10_alike_26 (by decide) (fun c_26 => ?_) (fun c_26 => ?_)
    · replace hf := it_t c_26 hf
      refine lv_aload_n (pc := 34) hx hb dX10_alike_34 rfl (lv_at hl 1 rfl) ?_
      refine lv_iconst (pc := 35) (v := 1) hx hb dX10_alike_35 (by decide) ?_
      obtain ⟨r_36, v_refusal_36, hc_36, hf⟩ := bd2 hf
      refine r_dalVi (pc := 36) (ws' := (wX10_alike E h h_reader h_inn h_chosen h_night h_marks h_notes h_casts h_casts_trial h_casts_dreams h_casts_plain h_casts_set h_casts_tried h_casts_kin h_casts_fitters h_notes_book h_notes_sort h_notes_one h_notes_other h_casts_plain_rows h_inn_house h_inn_thingIn h_inn_full h_inn_states h_inn_bed h_inn_dreamOf h_inn_listensIn h_inn_house_creak h_inn_house_cold h_inn_house_one h_inn_house_other h_inn_house_how h_inn_house_falls h_inn_house_ways h_casts_trial_ways h_casts_trial_how h_casts_trial_passed h_casts_trial_dreamOf h_casts_trial_stateOf h_casts_trial_roomOf h_casts_trial_handOf h_casts_trial_awake h_casts_trial_thingIn h_casts_trial_full h_casts_trial_heardBy h_casts_trial_ways_steps h_inn_house_ways_steps h_casts_set_rows v_marked v_refusal_36 v_latestFault v_faultPlace v_casts_count v_casts_fitting_9 v_notes_count v_notes_book v_notes_sort v_notes_one v_casts_plain_rows v_notes_other v_casts_fitters_9 v_inn_minutes v_inn_things v_inn_dreams v_inn_sleepers v_inn_listeners v_inn_house_rooms v_inn_house_doors v_casts_tried v_casts_trial_setting v_casts_trial_been v_inn_house_how v_casts_trial_ways_rooms v_casts_trial_ways_steps v_inn_house_one v_inn_house_other v_inn_thingIn v_casts_trial_thingIn v_inn_full v_casts_trial_full v_casts_trial_heardBy v_casts_dreams v_casts_trial_dreamOf v_casts_trial_stateOf v_inn_bed v_casts_trial_roomOf v_casts_trial_handOf v_casts_trial_awake v_casts_trial_how v_casts_trial_passed v_inn_states v_inn_house_creak v_inn_listensIn v_inn_house_ways_rooms v_inn_house_ways_steps v_inn_house_cold v_inn_house_falls v_casts_set_rows v_casts_kin)) (As := [.int 1]) (rest := []) C (ctX10_refuse l E h h_reader h_inn h_chosen h_night h_marks h_notes h_casts v_marked v_refusal v_latestFault v_faultPlace N 1 (r_36, v_refusal_36) hc_36) ml_X10_68 ⟨Nat.le_of_ble_eq_true rfl, Nat.le_of_ble_eq_true rfl⟩ hP hD hS 0 rfl rfl rfl [0] [43, 1, 2, 3, 4, 5, 6, 7, 8, 9, 10, 11, 12, 13, 14, 15, 16, 17, 18, 19, 20, 21, 22, 23, 24, 25, 26, 27, 28, 29, 30, 31, 32, 33, 34, 35, 36, 37, 38, 39, 40, 41, 42] 43 rfl rfl rfl rfl rfl rfl rfl hl.1 rfl (Nat.le_of_ble_eq_true rfl) ⟨Nat.zero_le _, Nat.zero_le _⟩ dX10_alike_36 ?_
      clear hP hD hS; intro H locs hP hD hS
      cases hf
      rw [hQ]
      exact r_iret C hr hP hD hS rfl dX10_alike_39
    · replace hf := it_f c_26 hf
      refine lv_iload_n (pc := 29) hx hb dX10_alike_29 rfl (lv_at hl 2 rfl) ?_
      refine lv_iload_n (pc := 30) hx hb dX10_alike_30 rfl (lv_at hl 3 rfl) ?_
      refine lv_icmp_ne (pc := 31) (tgt := 40) hx hb dX10_alike_31 (by decide) (fun c_31 => ?_) (fun c_31 => ?_)
      · replace hf := it_f c_31 hf
        refine lv_aload_n (pc := 40) hx hb dX10_alike_40 rfl (lv_at hl 1 rfl) ?_
        refine r_get (pc := 41) C hP 0 rfl fl_X10_50 rfl dX10_alike_41 ?_
        refine lv_iconst (pc := 44) (v := 0) hx hb dX10_alike_44 (by decide) ?_
        refine lv_aload_n (pc := 45) hx hb dX10_alike_45 rfl (lv_at hl 1 rfl) ?_
        refine r_get (pc := 46) C hP 0 rfl fl_X10_19 rfl dX10_alike_46 ?_
        obtain ⟨r_49, hc_49, hf⟩ := bd1 hf
        refine r_dalVi (pc := 49) (ws' := (wX10_alike E h h_reader h_inn h_chosen h_night h_marks h_notes h_casts h_casts_trial h_casts_dreams h_casts_plain h_casts_set h_casts_tried h_casts_kin h_casts_fitters h_notes_book h_notes_sort h_notes_one h_notes_other h_casts_plain_rows h_inn_house h_inn_thingIn h_inn_full h_inn_states h_inn_bed h_inn_dreamOf h_inn_listensIn h_inn_house_creak h_inn_house_cold h_inn_house_one h_inn_house_other h_inn_house_how h_inn_house_falls h_inn_house_ways h_casts_trial_ways h_casts_trial_how h_casts_trial_passed h_casts_trial_dreamOf h_casts_trial_stateOf h_casts_trial_roomOf h_casts_trial_handOf h_casts_trial_awake h_casts_trial_thingIn h_casts_trial_full h_casts_trial_heardBy h_casts_trial_ways_steps h_inn_house_ways_steps h_casts_set_rows v_marked v_refusal v_latestFault v_faultPlace v_casts_count v_casts_fitting_9 v_notes_count v_notes_book v_notes_sort v_notes_one v_casts_plain_rows v_notes_other v_casts_fitters_9 v_inn_minutes v_inn_things v_inn_dreams v_inn_sleepers v_inn_listeners v_inn_house_rooms v_inn_house_doors v_casts_tried v_casts_trial_setting v_casts_trial_been v_inn_house_how v_casts_trial_ways_rooms v_casts_trial_ways_steps v_inn_house_one v_inn_house_other v_inn_thingIn v_casts_trial_thingIn v_inn_full v_casts_trial_full v_casts_trial_heardBy v_casts_dreams v_casts_trial_dreamOf v_casts_trial_stateOf v_inn_bed v_casts_trial_roomOf v_casts_trial_handOf v_casts_trial_awake v_casts_trial_how v_casts_trial_passed v_inn_states v_inn_house_creak v_inn_listensIn v_inn_house_ways_rooms v_inn_house_ways_steps v_inn_house_cold v_inn_house_falls v_casts_set_rows v_casts_kin)) (As := []) (rest := [.int 0, .ref h_casts]) C (ctX2_settings l E h_inn h_inn_house h_inn_thingIn h_inn_full h_inn_states h_inn_bed h_inn_dreamOf h_inn_listensIn h_inn_house_creak h_inn_house_cold h_inn_house_one h_inn_house_other h_inn_house_how h_inn_house_falls h_inn_house_ways v_inn_minutes v_inn_things v_inn_dreams v_inn_sleepers v_inn_listeners v_inn_house_rooms v_inn_house_doors N r_49 hc_49) ml_X10_275 ⟨Nat.le_of_ble_eq_true rfl, Nat.le_of_ble_eq_true rfl⟩ hP hD hS 10 rfl rfl rfl [10, 11] [0, 1, 2, 3, 4, 5, 6, 7, 8, 9, 43, 44, 12, 13, 14, 15, 16, 17, 18, 19, 20, 21, 22, 23, 24, 25, 26, 27, 28, 29, 30, 31, 32, 33, 34, 35, 36, 37, 38, 39, 40, 41, 42] 43 rfl rfl rfl rfl rfl rfl rfl hl.1 rfl (Nat.le_of_ble_eq_true rfl) ⟨Nat.zero_le _, Nat.zero_le _⟩ dX10_alike_49 ?_
        clear hP hD hS; intro H locs hP hD hS
        refine lv_iconst (pc := 52) (v := 1) hx hb dX10_alike_52 (by decide) ?_
        refine lv_isub (pc := 53) hx hb dX10_alike_53 ?_
        obtain ⟨v_casts_tried_54, v_casts_trial_setting_54, v_casts_trial_been_54, v_casts_trial_ways_rooms_54, v_casts_trial_ways_steps_54, v_casts_trial_thingIn_54, v_casts_trial_full_54, v_casts_trial_heardBy_54, v_casts_trial_dreamOf_54, v_casts_trial_stateOf_54, v_casts_trial_roomOf_54, v_casts_trial_handOf_54, v_casts_trial_awake_54, v_casts_trial_how_54, v_casts_trial_passed_54, v_casts_set_rows_54, v_casts_kin_54, v_casts_plain_rows_54, hc_54, hf⟩ := bd18 hf
        refine r_dalVv (pc := 54) (ws' := (wX10_alike E h h_reader h_inn h_chosen h_night h_marks h_notes h_casts h_casts_trial h_casts_dreams h_casts_plain h_casts_set h_casts_tried h_casts_kin h_casts_fitters h_notes_book h_notes_sort h_notes_one h_notes_other h_casts_plain_rows h_inn_house h_inn_thingIn h_inn_full h_inn_states h_inn_bed h_inn_dreamOf h_inn_listensIn h_inn_house_creak h_inn_house_cold h_inn_house_one h_inn_house_other h_inn_house_how h_inn_house_falls h_inn_house_ways h_casts_trial_ways h_casts_trial_how h_casts_trial_passed h_casts_trial_dreamOf h_casts_trial_stateOf h_casts_trial_roomOf h_casts_trial_handOf h_casts_trial_awake h_casts_trial_thingIn h_casts_trial_full h_casts_trial_heardBy h_casts_trial_ways_steps h_inn_house_ways_steps h_casts_set_rows v_marked v_refusal v_latestFault v_faultPlace v_casts_count v_casts_fitting_9 v_notes_count v_notes_book v_notes_sort v_notes_one v_casts_plain_rows_54 v_notes_other v_casts_fitters_9 v_inn_minutes v_inn_things v_inn_dreams v_inn_sleepers v_inn_listeners v_inn_house_rooms v_inn_house_doors v_casts_tried_54 v_casts_trial_setting_54 v_casts_trial_been_54 v_inn_house_how v_casts_trial_ways_rooms_54 v_casts_trial_ways_steps_54 v_inn_house_one v_inn_house_other v_inn_thingIn v_casts_trial_thingIn_54 v_inn_full v_casts_trial_full_54 v_casts_trial_heardBy_54 v_casts_dreams v_casts_trial_dreamOf_54 v_casts_trial_stateOf_54 v_inn_bed v_casts_trial_roomOf_54 v_casts_trial_handOf_54 v_casts_trial_awake_54 v_casts_trial_how_54 v_casts_trial_passed_54 v_inn_states v_inn_house_creak v_inn_listensIn v_inn_house_ways_rooms v_inn_house_ways_steps v_inn_house_cold v_inn_house_falls v_casts_set_rows_54 v_casts_kin_54)) (As := [.int 0, .int (r_49 - 1)]) (rest := []) C (ctX0_tryOuts l E h_casts h_casts_trial h_inn h_casts_dreams h_casts_plain h_casts_set h_casts_tried h_casts_kin h_casts_fitters h_casts_trial_ways h_casts_trial_how h_casts_trial_passed h_casts_trial_dreamOf h_casts_trial_stateOf h_casts_trial_roomOf h_casts_trial_handOf h_casts_trial_awake h_casts_trial_thingIn h_casts_trial_full h_casts_trial_heardBy h_inn_house h_inn_thingIn h_inn_full h_inn_states h_inn_bed h_inn_dreamOf h_inn_listensIn h_inn_house_creak h_inn_house_cold h_inn_house_one h_inn_house_other h_inn_house_how h_inn_house_falls h_inn_house_ways h_casts_trial_ways_steps h_inn_house_ways_steps h_casts_set_rows h_casts_plain_rows v_casts_count v_casts_fitting_9 v_casts_tried v_casts_trial_setting v_casts_trial_been v_inn_minutes v_inn_things v_inn_dreams v_inn_sleepers v_inn_listeners v_inn_house_rooms v_inn_house_doors v_inn_house_how v_casts_trial_ways_rooms v_casts_trial_ways_steps v_inn_house_one v_inn_house_other v_inn_thingIn v_casts_trial_thingIn v_inn_full v_casts_trial_full v_casts_trial_heardBy v_casts_dreams v_casts_trial_dreamOf v_casts_trial_stateOf v_inn_bed v_casts_trial_roomOf v_casts_trial_handOf v_casts_trial_awake v_casts_trial_how v_casts_trial_passed v_inn_states v_inn_house_creak v_inn_listensIn v_inn_house_ways_rooms v_inn_house_ways_steps v_inn_house_cold v_inn_house_falls v_casts_set_rows v_casts_kin v_casts_plain_rows N 0 (r_49 - 1) (v_casts_tried_54, v_casts_trial_setting_54, v_casts_trial_been_54, v_casts_trial_ways_rooms_54, v_casts_trial_ways_steps_54, v_casts_trial_thingIn_54, v_casts_trial_full_54, v_casts_trial_heardBy_54, v_casts_trial_dreamOf_54, v_casts_trial_stateOf_54, v_casts_trial_roomOf_54, v_casts_trial_handOf_54, v_casts_trial_awake_54, v_casts_trial_how_54, v_casts_trial_passed_54, v_casts_set_rows_54, v_casts_kin_54, v_casts_plain_rows_54) hc_54) ml_X10_88 ⟨Nat.le_of_ble_eq_true rfl, Nat.le_of_ble_eq_true rfl⟩ hP hD hS 1 rfl rfl rfl [1, 12, 13, 10, 11, 14, 15, 16, 17, 18, 19, 20, 21, 22, 23, 24, 25, 26, 27, 28, 29, 30, 31, 32, 33, 34, 35, 36, 37, 38, 39, 40, 41, 42, 6, 7] [0, 43, 2, 3, 4, 5, 77, 78, 8, 9, 46, 47, 44, 45, 48, 49, 50, 51, 52, 53, 54, 55, 56, 57, 58, 59, 60, 61, 62, 63, 64, 65, 66, 67, 68, 69, 70, 71, 72, 73, 74, 75, 76] 43 rfl rfl rfl rfl rfl rfl rfl hl.1 rfl (Nat.le_of_ble_eq_true rfl) ⟨Nat.zero_le _, Nat.zero_le _⟩ dX10_alike_54 ?_
        clear hP hD hS; intro H locs hP hD hS
        refine lv_aload_n (pc := 57) hx hb dX10_alike_57 rfl (lv_at hl 1 rfl) ?_
        refine lv_aload_n (pc := 58) hx hb dX10_alike_58 rfl (lv_at hl 1 rfl) ?_
        refine r_get (pc := 59) C hP 0 rfl fl_X10_50 rfl dX10_alike_59 ?_
        refine lv_iload_n (pc := 62) hx hb dX10_alike_62 rfl (lv_at hl 2 rfl) ?_
        refine lv_iload_n (pc := 63) hx hb dX10_alike_63 rfl (lv_at hl 3 rfl) ?_
        obtain ⟨r_64, hc_64, hf⟩ := bd1 hf
        refine r_dalVi (pc := 64) (ws' := (wX10_alike E h h_reader h_inn h_chosen h_night h_marks h_notes h_casts h_casts_trial h_casts_dreams h_casts_plain h_casts_set h_casts_tried h_casts_kin h_casts_fitters h_notes_book h_notes_sort h_notes_one h_notes_other h_casts_plain_rows h_inn_house h_inn_thingIn h_inn_full h_inn_states h_inn_bed h_inn_dreamOf h_inn_listensIn h_inn_house_creak h_inn_house_cold h_inn_house_one h_inn_house_other h_inn_house_how h_inn_house_falls h_inn_house_ways h_casts_trial_ways h_casts_trial_how h_casts_trial_passed h_casts_trial_dreamOf h_casts_trial_stateOf h_casts_trial_roomOf h_casts_trial_handOf h_casts_trial_awake h_casts_trial_thingIn h_casts_trial_full h_casts_trial_heardBy h_casts_trial_ways_steps h_inn_house_ways_steps h_casts_set_rows v_marked v_refusal v_latestFault v_faultPlace v_casts_count v_casts_fitting_9 v_notes_count v_notes_book v_notes_sort v_notes_one v_casts_plain_rows_54 v_notes_other v_casts_fitters_9 v_inn_minutes v_inn_things v_inn_dreams v_inn_sleepers v_inn_listeners v_inn_house_rooms v_inn_house_doors v_casts_tried_54 v_casts_trial_setting_54 v_casts_trial_been_54 v_inn_house_how v_casts_trial_ways_rooms_54 v_casts_trial_ways_steps_54 v_inn_house_one v_inn_house_other v_inn_thingIn v_casts_trial_thingIn_54 v_inn_full v_casts_trial_full_54 v_casts_trial_heardBy_54 v_casts_dreams v_casts_trial_dreamOf_54 v_casts_trial_stateOf_54 v_inn_bed v_casts_trial_roomOf_54 v_casts_trial_handOf_54 v_casts_trial_awake_54 v_casts_trial_how_54 v_casts_trial_passed_54 v_inn_states v_inn_house_creak v_inn_listensIn v_inn_house_ways_rooms v_inn_house_ways_steps v_inn_house_cold v_inn_house_falls v_casts_set_rows_54 v_casts_kin_54)) (As := [.int p0, .int p1]) (rest := [.ref h]) C (ctX0_areAlike l E h_casts h_casts_trial h_inn h_casts_dreams h_casts_plain h_casts_set h_casts_tried h_casts_kin h_casts_fitters h_inn_house h_inn_thingIn h_inn_full h_inn_states h_inn_bed h_inn_dreamOf h_inn_listensIn h_inn_house_creak h_inn_house_cold h_inn_house_one h_inn_house_other h_inn_house_how h_inn_house_falls h_inn_house_ways v_casts_count v_casts_fitting_9 v_inn_minutes v_inn_things v_inn_dreams v_inn_sleepers v_inn_listeners v_inn_house_rooms v_inn_house_doors v_casts_fitters_9 v_casts_kin_54 N p0 p1 r_64 hc_64) ml_X10_282 ⟨Nat.le_of_ble_eq_true rfl, Nat.le_of_ble_eq_true rfl⟩ hP hD hS 1 rfl rfl rfl [1, 10, 11, 9, 42] [0, 43, 2, 3, 4, 5, 6, 7, 8, 46, 44, 45, 12, 13, 14, 15, 16, 17, 18, 19, 20, 21, 22, 23, 24, 25, 26, 27, 28, 29, 30, 31, 32, 33, 34, 35, 36, 37, 38, 39, 40, 41, 47] 43 rfl rfl rfl rfl rfl rfl rfl hl.1 rfl (Nat.le_of_ble_eq_true rfl) ⟨Nat.zero_le _, Nat.zero_le _⟩ dX10_alike_64 ?_
        clear hP hD hS; intro H locs hP hD hS
        obtain ⟨r_67, hc_67, hf⟩ := bd1 hf
        refine r_dalSi (pc := 67) (Cn := "") (h := 0) (ws' := (wX10_alike E h h_reader h_inn h_chosen h_night h_marks h_notes h_casts h_casts_trial h_casts_dreams h_casts_plain h_casts_set h_casts_tried h_casts_kin h_casts_fitters h_notes_book h_notes_sort h_notes_one h_notes_other h_casts_plain_rows h_inn_house h_inn_thingIn h_inn_full h_inn_states h_inn_bed h_inn_dreamOf h_inn_listensIn h_inn_house_creak h_inn_house_cold h_inn_house_one h_inn_house_other h_inn_house_how h_inn_house_falls h_inn_house_ways h_casts_trial_ways h_casts_trial_how h_casts_trial_passed h_casts_trial_dreamOf h_casts_trial_stateOf h_casts_trial_roomOf h_casts_trial_handOf h_casts_trial_awake h_casts_trial_thingIn h_casts_trial_full h_casts_trial_heardBy h_casts_trial_ways_steps h_inn_house_ways_steps h_casts_set_rows v_marked v_refusal v_latestFault v_faultPlace v_casts_count v_casts_fitting_9 v_notes_count v_notes_book v_notes_sort v_notes_one v_casts_plain_rows_54 v_notes_other v_casts_fitters_9 v_inn_minutes v_inn_things v_inn_dreams v_inn_sleepers v_inn_listeners v_inn_house_rooms v_inn_house_doors v_casts_tried_54 v_casts_trial_setting_54 v_casts_trial_been_54 v_inn_house_how v_casts_trial_ways_rooms_54 v_casts_trial_ways_steps_54 v_inn_house_one v_inn_house_other v_inn_thingIn v_casts_trial_thingIn_54 v_inn_full v_casts_trial_full_54 v_casts_trial_heardBy_54 v_casts_dreams v_casts_trial_dreamOf_54 v_casts_trial_stateOf_54 v_inn_bed v_casts_trial_roomOf_54 v_casts_trial_handOf_54 v_casts_trial_awake_54 v_casts_trial_how_54 v_casts_trial_passed_54 v_inn_states v_inn_house_creak v_inn_listensIn v_inn_house_ways_rooms v_inn_house_ways_steps v_inn_house_cold v_inn_house_falls v_casts_set_rows_54 v_casts_kin_54)) (As := [.int r_64]) (rest := [.ref h]) C (ctX10_bit l E N r_64 r_67 hc_67) ml_X10_132 ⟨Nat.le_of_ble_eq_true rfl, Nat.le_of_ble_eq_true rfl⟩ hP hD hS [] [0, 1, 2, 3, 4, 5, 6, 7, 8, 9, 10, 11, 12, 13, 14, 15, 16, 17, 18, 19, 20, 21, 22, 23, 24, 25, 26, 27, 28, 29, 30, 31, 32, 33, 34, 35, 36, 37, 38, 39, 40, 41, 42] 43 rfl rfl rfl rfl rfl rfl rfl hl.1 rfl (Nat.le_of_ble_eq_true rfl) ⟨Nat.zero_le _, Nat.zero_le _⟩ dX10_alike_67 ?_
        clear hP hD hS; intro H locs hP hD hS
        obtain ⟨r_70, v_refusal_70, hc_70, hf⟩ := bd2 hf
        refine r_dalVi (pc := 70) (ws' := (wX10_alike E h h_reader h_inn h_chosen h_night h_marks h_notes h_casts h_casts_trial h_casts_dreams h_casts_plain h_casts_set h_casts_tried h_casts_kin h_casts_fitters h_notes_book h_notes_sort h_notes_one h_notes_other h_casts_plain_rows h_inn_house h_inn_thingIn h_inn_full h_inn_states h_inn_bed h_inn_dreamOf h_inn_listensIn h_inn_house_creak h_inn_house_cold h_inn_house_one h_inn_house_other h_inn_house_how h_inn_house_falls h_inn_house_ways h_casts_trial_ways h_casts_trial_how h_casts_trial_passed h_casts_trial_dreamOf h_casts_trial_stateOf h_casts_trial_roomOf h_casts_trial_handOf h_casts_trial_awake h_casts_trial_thingIn h_casts_trial_full h_casts_trial_heardBy h_casts_trial_ways_steps h_inn_house_ways_steps h_casts_set_rows v_marked v_refusal_70 v_latestFault v_faultPlace v_casts_count v_casts_fitting_9 v_notes_count v_notes_book v_notes_sort v_notes_one v_casts_plain_rows_54 v_notes_other v_casts_fitters_9 v_inn_minutes v_inn_things v_inn_dreams v_inn_sleepers v_inn_listeners v_inn_house_rooms v_inn_house_doors v_casts_tried_54 v_casts_trial_setting_54 v_casts_trial_been_54 v_inn_house_how v_casts_trial_ways_rooms_54 v_casts_trial_ways_steps_54 v_inn_house_one v_inn_house_other v_inn_thingIn v_casts_trial_thingIn_54 v_inn_full v_casts_trial_full_54 v_casts_trial_heardBy_54 v_casts_dreams v_casts_trial_dreamOf_54 v_casts_trial_stateOf_54 v_inn_bed v_casts_trial_roomOf_54 v_casts_trial_handOf_54 v_casts_trial_awake_54 v_casts_trial_how_54 v_casts_trial_passed_54 v_inn_states v_inn_house_creak v_inn_listensIn v_inn_house_ways_rooms v_inn_house_ways_steps v_inn_house_cold v_inn_house_falls v_casts_set_rows_54 v_casts_kin_54)) (As := [.int r_67]) (rest := []) C (ctX10_answer l E h h_reader h_inn h_chosen h_night h_marks h_notes h_casts v_marked v_refusal v_latestFault v_faultPlace N r_67 (r_70, v_refusal_70) hc_70) ml_X10_95 ⟨Nat.le_of_ble_eq_true rfl, Nat.le_of_ble_eq_true rfl⟩ hP hD hS 0 rfl rfl rfl [0] [43, 1, 2, 3, 4, 5, 6, 7, 8, 9, 10, 11, 12, 13, 14, 15, 16, 17, 18, 19, 20, 21, 22, 23, 24, 25, 26, 27, 28, 29, 30, 31, 32, 33, 34, 35, 36, 37, 38, 39, 40, 41, 42] 43 rfl rfl rfl rfl rfl rfl rfl hl.1 rfl (Nat.le_of_ble_eq_true rfl) ⟨Nat.zero_le _, Nat.zero_le _⟩ dX10_alike_70 ?_
        clear hP hD hS; intro H locs hP hD hS
        cases hf
        rw [hQ]
        exact r_iret C hr hP hD hS rfl dX10_alike_73
      · replace hf := it_t c_31 hf
        refine lv_aload_n (pc := 34) hx hb dX10_alike_34 rfl (lv_at hl 1 rfl) ?_
        refine lv_iconst (pc := 35) (v := 1) hx hb dX10_alike_35 (by decide) ?_
        obtain ⟨r_36, v_refusal_36, hc_36, hf⟩ := bd2 hf
        refine r_dalVi (pc := 36) (ws' := (wX10_alike E h h_reader h_inn h_chosen h_night h_marks h_notes h_casts h_casts_trial h_casts_dreams h_casts_plain h_casts_set h_casts_tried h_casts_kin h_casts_fitters h_notes_book h_notes_sort h_notes_one h_notes_other h_casts_plain_rows h_inn_house h_inn_thingIn h_inn_full h_inn_states h_inn_bed h_inn_dreamOf h_inn_listensIn h_inn_house_creak h_inn_house_cold h_inn_house_one h_inn_house_other h_inn_house_how h_inn_house_falls h_inn_house_ways h_casts_trial_ways h_casts_trial_how h_casts_trial_passed h_casts_trial_dreamOf h_casts_trial_stateOf h_casts_trial_roomOf h_casts_trial_handOf h_casts_trial_awake h_casts_trial_thingIn h_casts_trial_full h_casts_trial_heardBy h_casts_trial_ways_steps h_inn_house_ways_steps h_casts_set_rows v_marked v_refusal_36 v_latestFault v_faultPlace v_casts_count v_casts_fitting_9 v_notes_count v_notes_book v_notes_sort v_notes_one v_casts_plain_rows v_notes_other v_casts_fitters_9 v_inn_minutes v_inn_things v_inn_dreams v_inn_sleepers v_inn_listeners v_inn_house_rooms v_inn_house_doors v_casts_tried v_casts_trial_setting v_casts_trial_been v_inn_house_how v_casts_trial_ways_rooms v_casts_trial_ways_steps v_inn_house_one v_inn_house_other v_inn_thingIn v_casts_trial_thingIn v_inn_full v_casts_trial_full v_casts_trial_heardBy v_casts_dreams v_casts_trial_dreamOf v_casts_trial_stateOf v_inn_bed v_casts_trial_roomOf v_casts_trial_handOf v_casts_trial_awake v_casts_trial_how v_casts_trial_passed v_inn_states v_inn_house_creak v_inn_listensIn v_inn_house_ways_rooms v_inn_house_ways_steps v_inn_house_cold v_inn_house_falls v_casts_set_rows v_casts_kin)) (As := [.int 1]) (rest := []) C (ctX10_refuse l E h h_reader h_inn h_chosen h_night h_marks h_notes h_casts v_marked v_refusal v_latestFault v_faultPlace N 1 (r_36, v_refusal_36) hc_36) ml_X10_68 ⟨Nat.le_of_ble_eq_true rfl, Nat.le_of_ble_eq_true rfl⟩ hP hD hS 0 rfl rfl rfl [0] [43, 1, 2, 3, 4, 5, 6, 7, 8, 9, 10, 11, 12, 13, 14, 15, 16, 17, 18, 19, 20, 21, 22, 23, 24, 25, 26, 27, 28, 29, 30, 31, 32, 33, 34, 35, 36, 37, 38, 39, 40, 41, 42] 43 rfl rfl rfl rfl rfl rfl rfl hl.1 rfl (Nat.le_of_ble_eq_true rfl) ⟨Nat.zero_le _, Nat.zero_le _⟩ dX10_alike_36 ?_
        clear hP hD hS; intro H locs hP hD hS
        cases hf
        rw [hQ]
        exact r_iret C hr hP hD hS rfl dX10_alike_39
def wX0_alikePairs (E : EN) (h h_trial h_inn h_dreams h_plain h_set h_tried h_kin h_fitters h_inn_house h_inn_thingIn h_inn_full h_inn_states h_inn_bed h_inn_dreamOf h_inn_listensIn h_inn_house_creak h_inn_house_cold h_inn_house_one h_inn_house_other h_inn_house_how h_inn_house_falls h_inn_house_ways : Nat) (v_count : Int32) (v_fitting : Int32) (v_inn_minutes : Int32) (v_inn_things : Int32) (v_inn_dreams : Int32) (v_inn_sleepers : Int32) (v_inn_listeners : Int32) (v_inn_house_rooms : Int32) (v_inn_house_doors : Int32) (v_fitters : Nat → Int32) (v_kin : Nat → Int32) : va_W := [(h, .inr (0, [.ref h_trial, .ref h_inn, .int v_count, .ref h_dreams, .ref h_plain, .ref h_set, .ref h_tried, .ref h_kin, .int v_fitting, .ref h_fitters])), (h_inn, .inr (2, [.ref h_inn_house, .int v_inn_minutes, .int v_inn_things, .ref h_inn_thingIn, .ref h_inn_full, .int v_inn_dreams, .ref h_inn_states, .int v_inn_sleepers, .ref h_inn_bed, .ref h_inn_dreamOf, .int v_inn_listeners, .ref h_inn_listensIn])), (h_inn_house, .inr (1, [.int v_inn_house_rooms, .ref h_inn_house_creak, .ref h_inn_house_cold, .int v_inn_house_doors, .ref h_inn_house_one, .ref h_inn_house_other, .ref h_inn_house_how, .ref h_inn_house_falls, .ref h_inn_house_ways])), (h_fitters, aI E 64 v_fitters), (h_kin, aI E 1344 v_kin)]
def BX0_alikePairs_16 (v_fitting : Int32) (N : Nat) (x4_2 : Int32) (v_inn_house_doors : Int32) (v_fitters : Nat → Int32) (v_kin : Nat → Int32) (K42 : (Int32) → Option Int32) (rec16 : (Int32 × Int32) → Option Int32) : (Int32 × Int32) → Option Int32 := un2 fun (x16_1 : Int32) (x16_3 : Int32) => if v_fitting ≤ x16_3 then (K42 x16_1) else ((fX0_areAlike N x4_2 x16_3 v_inn_house_doors v_fitters v_kin).bind (un1 fun (r_27 : Int32) => jn (un1 fun (x36_1 : Int32) => rec16 (x36_1, x16_3 + 1)) (fun j36 => if r_27 = 0 then (j36 x16_1) else (j36 (x16_1 + 1)))))
def BX0_alikePairs_4 (v_fitting : Int32) (N : Nat) (v_inn_house_doors : Int32) (v_fitters : Nat → Int32) (v_kin : Nat → Int32) (rec4 : (Int32 × Int32) → Option Int32) : (Int32 × Int32) → Option Int32 := un2 fun (x4_1 : Int32) (x4_2 : Int32) => if v_fitting ≤ x4_2 then (some x4_1) else (lp (BX0_alikePairs_16 v_fitting N x4_2 v_inn_house_doors v_fitters v_kin (un1 fun (x42_1 : Int32) => rec4 (x42_1, x4_2 + 1))) N (x4_1, x4_2 + 1))
def fX0_alikePairs (N : Nat) (v_fitting : Int32) (v_inn_house_doors : Int32) (v_fitters : Nat → Int32) (v_kin : Nat → Int32) : Option Int32 := lp (BX0_alikePairs_4 v_fitting N v_inn_house_doors v_fitters v_kin) N (0, 0)
set_option maxHeartbeats 4000000 in
set_option maxRecDepth 100000 in
theorem ctX0_alikePairs (l : Launch) (E : EN) (h h_trial h_inn h_dreams h_plain h_set h_tried h_kin h_fitters h_inn_house h_inn_thingIn h_inn_full h_inn_states h_inn_bed h_inn_dreamOf h_inn_listensIn h_inn_house_creak h_inn_house_cold h_inn_house_one h_inn_house_other h_inn_house_how h_inn_house_falls h_inn_house_ways : Nat) (v_count : Int32) (v_fitting : Int32) (v_inn_minutes : Int32) (v_inn_things : Int32) (v_inn_dreams : Int32) (v_inn_sleepers : Int32) (v_inn_listeners : Int32) (v_inn_house_rooms : Int32) (v_inn_house_doors : Int32) (v_fitters : Nat → Int32) (v_kin : Nat → Int32) (N : Nat) (z : Int32) (hf : fX0_alikePairs N v_fitting v_inn_house_doors v_fitters v_kin = some z) : CTi l E yX0_alikePairs cX0_alikePairs 4 .int 2 47 [.ref h] (wX0_alikePairs E h h_trial h_inn h_dreams h_plain h_set h_tried h_kin h_fitters h_inn_house h_inn_thingIn h_inn_full h_inn_states h_inn_bed h_inn_dreamOf h_inn_listensIn h_inn_house_creak h_inn_house_cold h_inn_house_one h_inn_house_other h_inn_house_how h_inn_house_falls h_inn_house_ways v_count v_fitting v_inn_minutes v_inn_things v_inn_dreams v_inn_sleepers v_inn_listeners v_inn_house_rooms v_inn_house_doors v_fitters v_kin) (z) (wX0_alikePairs E h h_trial h_inn h_dreams h_plain h_set h_tried h_kin h_fitters h_inn_house h_inn_thingIn h_inn_full h_inn_states h_inn_bed h_inn_dreamOf h_inn_listensIn h_inn_house_creak h_inn_house_cold h_inn_house_one h_inn_house_other h_inn_house_how h_inn_house_falls h_inn_house_ways v_count v_fitting v_inn_minutes v_inn_things v_inn_dreams v_inn_sleepers v_inn_listeners v_inn_house_rooms v_inn_house_doors v_fitters v_kin) := by
  intro sz
  refine ct_body (by decide) (Nat.le_of_ble_eq_true rfl) ?_
  intro p e s m args below meth c A ls hAe C hr hin hP hD hS hl
  have C : CX p s m args meth c cX0_alikePairs RX0 4 E A := C
  have hl : lv_has ls 4 [(0, .ref h)] := hl
  have hx := C.1
  have hb := C.2.1
  rw [hAe]
  clear hAe
  obtain ⟨Q, hQ⟩ : ∃ Q, Q = MQ below (Qi E A (z) (wX0_alikePairs E h h_trial h_inn h_dreams h_plain h_set h_tried h_kin h_fitters h_inn_house h_inn_thingIn h_inn_full h_inn_states h_inn_bed h_inn_dreamOf h_inn_listensIn h_inn_house_creak h_inn_house_cold h_inn_house_one h_inn_house_other h_inn_house_how h_inn_house_falls h_inn_house_ways v_count v_fitting v_inn_minutes v_inn_things v_inn_dreams v_inn_sleepers v_inn_listeners v_inn_house_rooms v_inn_house_doors v_fitters v_kin)) args s 0 0 A := ⟨_, rfl⟩
  rw [← hQ]
  unfold fX0_alikePairs at hf
  refine lv_iconst (pc := 0) (v := 0) hx hb dX0_alikePairs_0 (by decide) ?_
  refine lv_istore_n (pc := 1) (lv' := [(1, .int 0), (0, .ref h)]) hx hb dX0_alikePairs_1 rfl hl (by decide) rfl (fun ls hl => ?_)
  refine lv_iconst (pc := 2) (v := 0) hx hb dX0_alikePairs_2 (by decide) ?_
  refine lv_istore_n (pc := 3) (lv' := [(2, .int 0), (1, .int 0), (0, .ref h)]) hx hb dX0_alikePairs_3 rfl hl (by decide) rfl (fun ls hl => ?_)
  have key4 : ∀ (n : Nat) (x4_1 : Int32) (x4_2 : Int32) , lp (BX0_alikePairs_4 v_fitting N v_inn_house_doors v_fitters v_kin) n (x4_1, x4_2) = some z → AT p l e (rmOf 2 47) s m args below meth c E A Q 0 0 4 [(0, .ref h), (1, .int x4_1), (2, .int x4_2)] (wX0_alikePairs E h h_trial h_inn h_dreams h_plain h_set h_tried h_kin h_fitters h_inn_house h_inn_thingIn h_inn_full h_inn_states h_inn_bed h_inn_dreamOf h_inn_listensIn h_inn_house_creak h_inn_house_cold h_inn_house_one h_inn_house_other h_inn_house_how h_inn_house_falls h_inn_house_ways v_count v_fitting v_inn_minutes v_inn_things v_inn_dreams v_inn_sleepers v_inn_listeners v_inn_house_rooms v_inn_house_doors v_fitters v_kin) 4 [] := by
    intro n
    induction n with
    | zero => intro x4_1 x4_2 hf; exact (lp_0 hf).elim
    | succ n ih4 =>
      intro x4_1 x4_2 hf H locs ls hl hP hD hS
      replace hf := lp_s hf
      generalize lp (BX0_alikePairs_4 v_fitting N v_inn_house_doors v_fitters v_kin) n = rec4 at ih4 hf
      unfold BX0_alikePairs_4 at hf
      replace hf := un2_s hf
      refine lv_iload_n (pc := 4) hx hb dX0_alikePairs_4 rfl (lv_at hl 2 rfl) ?_
      refine lv_aload_n (pc := 5) hx hb dX0_alikePairs_5 rfl (lv_at hl 0 rfl) ?_
      refine r_get (pc := 6) C hP 0 rfl fl_X0_91 rfl dX0_alikePairs_6 ?_
      refine lv_icmp_ge (pc := 9) (tgt := 48) hx hb dX0_alikePairs_9 (by decide) (fun c_9 => ?_) (fun c_9 => ?_)
      · replace hf := it_t c_9 hf
        refine lv_iload_n (pc := 48) hx hb dX0_alikePairs_48 rfl (lv_at hl 1 rfl) ?_
        cases hf
        rw [hQ]
        exact r_iret C hr hP hD hS rfl dX0_alikePairs_49
      · replace hf := it_f c_9 hf
        refine lv_iload_n (pc := 12) hx hb dX0_alikePairs_12 rfl (lv_at hl 2 rfl) ?_
        refine lv_iconst (pc := 13) (v := 1) hx hb dX0_alikePairs_13 (by decide) ?_
        refine lv_iadd (pc := 14) hx hb dX0_alikePairs_14 ?_
        refine lv_istore_n (pc := 15) (lv' := [(3, .int (x4_2 + 1)), (0, .ref h), (1, .int x4_1), (2, .int x4_2)]) hx hb dX0_alikePairs_15 rfl hl (by decide) rfl (fun ls hl => ?_)
        refine lpK hf (fun K42 eK42 hf => ?_)
        have hK42 : ∀ (x42_1 : Int32) , K42 x42_1 = some z → AT p l e (rmOf 2 47) s m args below meth c E A Q 0 0 4 [(0, .ref h), (1, .int x42_1), (2, .int x4_2)] (wX0_alikePairs E h h_trial h_inn h_dreams h_plain h_set h_tried h_kin h_fitters h_inn_house h_inn_thingIn h_inn_full h_inn_states h_inn_bed h_inn_dreamOf h_inn_listensIn h_inn_house_creak h_inn_house_cold h_inn_house_one h_inn_house_other h_inn_house_how h_inn_house_falls h_inn_house_ways v_count v_fitting v_inn_minutes v_inn_things v_inn_dreams v_inn_sleepers v_inn_listeners v_inn_house_rooms v_inn_house_doors v_fitters v_kin) 42 [] := by
          intro x42_1 hf H locs ls hl hP hD hS
          rw [eK42] at hf
          replace hf := un1_s hf
          refine lv_iinc (pc := 42) (v := x4_2 + 1) (lv' := [(2, .int (x4_2 + 1)), (0, .ref h), (1, .int x42_1)]) hx hb dX0_alikePairs_42 hl (k := 2) rfl rfl (by decide) rfl (fun ls hl => ?_)
          refine lv_goto (pc := 45) (tgt := 4) hx hb dX0_alikePairs_45 (by decide) ?_
          exact ih4 x42_1 (x4_2 + 1) hf _ _ _ (lv_sub hl [1, 2, 0] rfl) hP hD hS
        clear eK42
        have key16 : ∀ (n : Nat) (x16_1 : Int32) (x16_3 : Int32) , lp (BX0_alikePairs_16 v_fitting N x4_2 v_inn_house_doors v_fitters v_kin K42) n (x16_1, x16_3) = some z → AT p l e (rmOf 2 47) s m args below meth c E A Q 0 0 4 [(0, .ref h), (1, .int x16_1), (2, .int x4_2), (3, .int x16_3)] (wX0_alikePairs E h h_trial h_inn h_dreams h_plain h_set h_tried h_kin h_fitters h_inn_house h_inn_thingIn h_inn_full h_inn_states h_inn_bed h_inn_dreamOf h_inn_listensIn h_inn_house_creak h_inn_house_cold h_inn_house_one h_inn_house_other h_inn_house_how h_inn_house_falls h_inn_house_ways v_count v_fitting v_inn_minutes v_inn_things v_inn_dreams v_inn_sleepers v_inn_listeners v_inn_house_rooms v_inn_house_doors v_fitters v_kin) 16 [] := by
          intro n
          induction n with
          | zero => intro x16_1 x16_3 hf; exact (lp_0 hf).elim
          | succ n ih16 =>
            intro x16_1 x16_3 hf H locs ls hl hP hD hS
            replace hf := lp_s hf
            generalize lp (BX0_alikePairs_16 v_fitting N x4_2 v_inn_house_doors v_fitters v_kin K42) n = rec16 at ih16 hf
            unfold BX0_alikePairs_16 at hf
            replace hf := un2_s hf
            refine lv_iload_n (pc := 16) hx hb dX0_alikePairs_16 rfl (lv_at hl 3 rfl) ?_
            refine lv_aload_n (pc := 17) hx hb dX0_alikePairs_17 rfl (lv_at hl 0 rfl) ?_
            refine r_get (pc := 18) C hP 0 rfl fl_X0_91 rfl dX0_alikePairs_18 ?_
            refine lv_icmp_ge (pc := 21) (tgt := 42) hx hb dX0_alikePairs_21 (by decide) (fun c_21 => ?_) (fun c_21 => ?_)
            · replace hf := it_t c_21 hf
              exact hK42 x16_1 hf _ _ _ (lv_sub hl [0, 1, 2] rfl) hP hD hS
            · replace hf := it_f c_21 hf
              refine lv_aload_n (pc := 24) hx hb dX0_alikePairs_24 rfl (lv_at hl 0 rfl) ?_
              refine lv_iload_n (pc := 25) hx hb dX0_alikePairs_25 rfl (lv_at hl 2 rfl) ?_
              refine lv_iload_n (pc := 26) hx hb dX0_alikePairs_26 rfl (lv_at hl 3 rfl) ?_
              obtain ⟨r_27, hc_27, hf⟩ := bd1 hf
              refine r_dalVi (pc := 27) (ws' := (wX0_alikePairs E h h_trial h_inn h_dreams h_plain h_set h_tried h_kin h_fitters h_inn_house h_inn_thingIn h_inn_full h_inn_states h_inn_bed h_inn_dreamOf h_inn_listensIn h_inn_house_creak h_inn_house_cold h_inn_house_one h_inn_house_other h_inn_house_how h_inn_house_falls h_inn_house_ways v_count v_fitting v_inn_minutes v_inn_things v_inn_dreams v_inn_sleepers v_inn_listeners v_inn_house_rooms v_inn_house_doors v_fitters v_kin)) (As := [.int x4_2, .int x16_3]) (rest := []) C (ctX0_areAlike l E h h_trial h_inn h_dreams h_plain h_set h_tried h_kin h_fitters h_inn_house h_inn_thingIn h_inn_full h_inn_states h_inn_bed h_inn_dreamOf h_inn_listensIn h_inn_house_creak h_inn_house_cold h_inn_house_one h_inn_house_other h_inn_house_how h_inn_house_falls h_inn_house_ways v_count v_fitting v_inn_minutes v_inn_things v_inn_dreams v_inn_sleepers v_inn_listeners v_inn_house_rooms v_inn_house_doors v_fitters v_kin N x4_2 x16_3 r_27 hc_27) ml_X0_120 ⟨Nat.le_of_ble_eq_true rfl, Nat.le_of_ble_eq_true rfl⟩ hP hD hS 0 rfl rfl rfl [0, 1, 2, 3, 4] [5, 6, 7, 8, 9] 5 rfl rfl rfl rfl rfl rfl rfl hl.1 rfl (Nat.le_of_ble_eq_true rfl) ⟨Nat.zero_le _, Nat.zero_le _⟩ dX0_alikePairs_27 ?_
              clear hP hD hS; intro H locs hP hD hS
              refine jnK hf (fun j36 ej36 hf => ?_)
              have hj36 : ∀ (x36_1 : Int32) , j36 x36_1 = some z → AT p l e (rmOf 2 47) s m args below meth c E A Q 0 0 4 [(0, .ref h), (1, .int x36_1), (2, .int x4_2), (3, .int x16_3)] (wX0_alikePairs E h h_trial h_inn h_dreams h_plain h_set h_tried h_kin h_fitters h_inn_house h_inn_thingIn h_inn_full h_inn_states h_inn_bed h_inn_dreamOf h_inn_listensIn h_inn_house_creak h_inn_house_cold h_inn_house_one h_inn_house_other h_inn_house_how h_inn_house_falls h_inn_house_ways v_count v_fitting v_inn_minutes v_inn_things v_inn_dreams v_inn_sleepers v_inn_listeners v_inn_house_rooms v_inn_house_doors v_fitters v_kin) 36 [] := by
                intro x36_1 hf H locs ls hl hP hD hS
                rw [ej36] at hf
                replace hf := un1_s hf
                refine lv_iinc (pc := 36) (v := x16_3 + 1) (lv' := [(3, .int (x16_3 + 1)), (0, .ref h), (1, .int x36_1), (2, .int x4_2)]) hx hb dX0_alikePairs_36 hl (k := 3) rfl rfl (by decide) rfl (fun ls hl => ?_)
                refine lv_goto (pc := 39) (tgt := 16) hx hb dX0_alikePairs_39 (by decide) ?_
                exact ih16 x36_1 (x16_3 + 1) hf _ _ _ (lv_sub hl [1, 2, 3, 0] rfl) hP hD hS
              clear ej36
              refine lv_if_eq (pc := 30) (tgt := 36) hx hb dX0_alikePairs_30 (by decide) (fun c_30 => ?_) (fun c_30 => ?_)
              · replace hf := it_t c_30 hf
                exact hj36 x16_1 hf _ _ _ (lv_sub hl [0, 1, 2, 3] rfl) hP hD hS
              · replace hf := it_f c_30 hf
                refine lv_iinc (pc := 33) (v := x16_1 + 1) (lv' := [(1, .int (x16_1 + 1)), (0, .ref h), (2, .int x4_2), (3, .int x16_3)]) hx hb dX0_alikePairs_33 hl (k := 1) rfl rfl (by decide) rfl (fun ls hl => ?_)
                exact hj36 (x16_1 + 1) hf _ _ _ (lv_sub hl [1, 0, 2, 3] rfl) hP hD hS
        exact key16 _ x4_1 (x4_2 + 1) hf _ _ _ (lv_sub hl [1, 2, 3, 0] rfl) hP hD hS
  exact key4 _ 0 0 hf _ _ _ (lv_sub hl [2, 1, 0] rfl) hP hD hS
def wX10_never (E : EN) (h h_reader h_inn h_chosen h_night h_marks h_notes h_casts h_inn_house h_inn_thingIn h_inn_full h_inn_states h_inn_bed h_inn_dreamOf h_inn_listensIn h_casts_trial h_casts_dreams h_casts_plain h_casts_set h_casts_tried h_casts_kin h_casts_fitters h_notes_book h_notes_sort h_notes_one h_notes_other h_casts_plain_rows h_inn_house_creak h_inn_house_cold h_inn_house_one h_inn_house_other h_inn_house_how h_inn_house_falls h_inn_house_ways h_casts_trial_ways h_casts_trial_how h_casts_trial_passed h_casts_trial_dreamOf h_casts_trial_stateOf h_casts_trial_roomOf h_casts_trial_handOf h_casts_trial_awake h_casts_trial_thingIn h_casts_trial_full h_casts_trial_heardBy h_casts_trial_ways_steps h_inn_house_ways_steps h_casts_set_rows : Nat) (v_marked : Int32) (v_refusal : Int32) (v_latestFault : Int32) (v_faultPlace : Int32) (v_inn_minutes : Int32) (v_inn_things : Int32) (v_inn_dreams : Int32) (v_inn_sleepers : Int32) (v_inn_listeners : Int32) (v_casts_count : Int32) (v_casts_fitting : Int32) (v_notes_count : Int32) (v_notes_book : Nat → Int32) (v_notes_sort : Nat → Int32) (v_notes_one : Nat → Int32) (v_casts_plain_rows : Nat → Int64) (v_notes_other : Nat → Int32) (v_casts_fitters : Nat → Int32) (v_inn_house_rooms : Int32) (v_inn_house_doors : Int32) (v_casts_tried : Nat → Int32) (v_casts_trial_setting : Int32) (v_casts_trial_been : Int32) (v_inn_house_how : Nat → Int32) (v_casts_trial_ways_rooms : Int32) (v_casts_trial_ways_steps : Nat → Int32) (v_inn_house_one : Nat → Int32) (v_inn_house_other : Nat → Int32) (v_inn_thingIn : Nat → Int32) (v_casts_trial_thingIn : Nat → Int32) (v_inn_full : Nat → Int32) (v_casts_trial_full : Nat → Int32) (v_casts_trial_heardBy : Nat → Int64) (v_casts_dreams : Nat → Int32) (v_casts_trial_dreamOf : Nat → Int32) (v_casts_trial_stateOf : Nat → Int32) (v_inn_bed : Nat → Int32) (v_casts_trial_roomOf : Nat → Int32) (v_casts_trial_handOf : Nat → Int32) (v_casts_trial_awake : Nat → Int32) (v_casts_trial_how : Nat → Int32) (v_casts_trial_passed : Nat → Int32) (v_inn_states : Nat → Int32) (v_inn_house_creak : Nat → Int32) (v_inn_listensIn : Nat → Int32) (v_inn_house_ways_rooms : Int32) (v_inn_house_ways_steps : Nat → Int32) (v_inn_house_cold : Nat → Int32) (v_inn_house_falls : Nat → Int32) (v_casts_set_rows : Nat → Int64) (v_casts_kin : Nat → Int32) : va_W := [(h, .inr (9, [.ref h_reader, .ref h_inn, .ref h_chosen, .ref h_night, .ref h_marks, .int v_marked, .ref h_notes, .ref h_casts, .int v_refusal, .int v_latestFault, .int v_faultPlace])), (h_inn, .inr (2, [.ref h_inn_house, .int v_inn_minutes, .int v_inn_things, .ref h_inn_thingIn, .ref h_inn_full, .int v_inn_dreams, .ref h_inn_states, .int v_inn_sleepers, .ref h_inn_bed, .ref h_inn_dreamOf, .int v_inn_listeners, .ref h_inn_listensIn])), (h_casts, .inr (0, [.ref h_casts_trial, .ref h_inn, .int v_casts_count, .ref h_casts_dreams, .ref h_casts_plain, .ref h_casts_set, .ref h_casts_tried, .ref h_casts_kin, .int v_casts_fitting, .ref h_casts_fitters])), (h_notes, .inr (5, [.ref h_notes_book, .ref h_notes_sort, .ref h_notes_one, .ref h_notes_other, .int v_notes_count])), (h_notes_book, aI E 20 v_notes_book), (h_notes_sort, aI E 20 v_notes_sort), (h_notes_one, aI E 20 v_notes_one), (h_casts_plain, .inr (3, [.ref h_casts_plain_rows])), (h_casts_plain_rows, aJ E 256 v_casts_plain_rows), (h_notes_other, aI E 20 v_notes_other), (h_casts_fitters, aI E 64 v_casts_fitters), (h_inn_house, .inr (1, [.int v_inn_house_rooms, .ref h_inn_house_creak, .ref h_inn_house_cold, .int v_inn_house_doors, .ref h_inn_house_one, .ref h_inn_house_other, .ref h_inn_house_how, .ref h_inn_house_falls, .ref h_inn_house_ways])), (h_casts_tried, aZ E 21 v_casts_tried), (h_casts_trial, .inr (4, [.ref h_inn, .int v_casts_trial_setting, .int v_casts_trial_been, .ref h_casts_trial_ways, .ref h_casts_trial_how, .ref h_casts_trial_passed, .ref h_casts_trial_dreamOf, .ref h_casts_trial_stateOf, .ref h_casts_trial_roomOf, .ref h_casts_trial_handOf, .ref h_casts_trial_awake, .ref h_casts_trial_thingIn, .ref h_casts_trial_full, .ref h_casts_trial_heardBy])), (h_inn_house_how, aI E 10 v_inn_house_how), (h_casts_trial_ways, .inr (8, [.ref h_casts_trial_ways_steps, .int v_casts_trial_ways_rooms])), (h_casts_trial_ways_steps, aI E 64 v_casts_trial_ways_steps), (h_inn_house_one, aI E 10 v_inn_house_one), (h_inn_house_other, aI E 10 v_inn_house_other), (h_inn_thingIn, aI E 4 v_inn_thingIn), (h_casts_trial_thingIn, aI E 4 v_casts_trial_thingIn), (h_inn_full, aZ E 4 v_inn_full), (h_casts_trial_full, aZ E 4 v_casts_trial_full), (h_casts_trial_heardBy, aJ E 3 v_casts_trial_heardBy), (h_casts_dreams, aI E 192 v_casts_dreams), (h_casts_trial_dreamOf, aI E 3 v_casts_trial_dreamOf), (h_casts_trial_stateOf, aI E 3 v_casts_trial_stateOf), (h_inn_bed, aI E 3 v_inn_bed), (h_casts_trial_roomOf, aI E 3 v_casts_trial_roomOf), (h_casts_trial_handOf, aI E 3 v_casts_trial_handOf), (h_casts_trial_awake, aZ E 3 v_casts_trial_awake), (h_casts_trial_how, aI E 10 v_casts_trial_how), (h_casts_trial_passed, aI E 10 v_casts_trial_passed), (h_inn_states, aI E 64 v_inn_states), (h_inn_house_creak, aI E 8 v_inn_house_creak), (h_inn_listensIn, aI E 3 v_inn_listensIn), (h_inn_house_ways, .inr (8, [.ref h_inn_house_ways_steps, .int v_inn_house_ways_rooms])), (h_inn_house_ways_steps, aI E 64 v_inn_house_ways_steps), (h_inn_house_cold, aZ E 8 v_inn_house_cold), (h_inn_house_falls, aZ E 10 v_inn_house_falls), (h_casts_set, .inr (3, [.ref h_casts_set_rows])), (h_casts_set_rows, aJ E 256 v_casts_set_rows), (h_casts_kin, aI E 1344 v_casts_kin)]
def fX10_never (N : Nat) (v_inn_minutes : Int32) (v_inn_things : Int32) (v_inn_sleepers : Int32) (v_inn_listeners : Int32) (v_casts_count : Int32) (v_casts_fitting : Int32) (v_notes_count : Int32) (v_notes_book : Nat → Int32) (v_notes_sort : Nat → Int32) (v_notes_one : Nat → Int32) (v_casts_plain_rows : Nat → Int64) (v_notes_other : Nat → Int32) (v_casts_fitters : Nat → Int32) (v_inn_house_rooms : Int32) (v_inn_house_doors : Int32) (v_casts_tried : Nat → Int32) (v_casts_trial_setting : Int32) (v_casts_trial_been : Int32) (v_inn_house_how : Nat → Int32) (v_casts_trial_ways_rooms : Int32) (v_casts_trial_ways_steps : Nat → Int32) (v_inn_house_one : Nat → Int32) (v_inn_house_other : Nat → Int32) (v_inn_thingIn : Nat → Int32) (v_casts_trial_thingIn : Nat → Int32) (v_inn_full : Nat → Int32) (v_casts_trial_full : Nat → Int32) (v_casts_trial_heardBy : Nat → Int64) (v_casts_dreams : Nat → Int32) (v_casts_trial_dreamOf : Nat → Int32) (v_casts_trial_stateOf : Nat → Int32) (v_inn_bed : Nat → Int32) (v_casts_trial_roomOf : Nat → Int32) (v_casts_trial_handOf : Nat → Int32) (v_casts_trial_awake : Nat → Int32) (v_casts_trial_how : Nat → Int32) (v_casts_trial_passed : Nat → Int32) (v_inn_states : Nat → Int32) (v_inn_house_creak : Nat → Int32) (v_inn_listensIn : Nat → Int32) (v_inn_house_ways_steps : Nat → Int32) (v_inn_house_cold : Nat → Int32) (v_inn_house_falls : Nat → Int32) (v_casts_set_rows : Nat → Int64) (v_casts_kin : Nat → Int32) : Option (Int32 × Int32 × Int32 × (Nat → Int64) × (Nat → Int32) × (Nat → Int32) × Int32 × Int32 × Int32 × (Nat → Int32) × (Nat → Int32) × (Nat → Int32) × (Nat → Int64) × (Nat → Int32) × (Nat → Int32) × (Nat → Int32) × (Nat → Int32) × (Nat → Int32) × (Nat → Int32) × (Nat → Int32) × (Nat → Int64) × (Nat → Int32)) := (fX10_isTold N v_inn_minutes).bind (un1 fun (r_1 : Int32) => if r_1 = 0 then ((fX10_refuse N 1).bind (un2 fun (r_9 : Int32) (v_refusal_9 : Int32) => some (r_9, v_refusal_9, v_casts_fitting, v_casts_plain_rows, v_casts_fitters, v_casts_tried, v_casts_trial_setting, v_casts_trial_been, v_casts_trial_ways_rooms, v_casts_trial_ways_steps, v_casts_trial_thingIn, v_casts_trial_full, v_casts_trial_heardBy, v_casts_trial_dreamOf, v_casts_trial_stateOf, v_casts_trial_roomOf, v_casts_trial_handOf, v_casts_trial_awake, v_casts_trial_how, v_casts_trial_passed, v_casts_set_rows, v_casts_kin))) else ((fX0_gather N 3 v_casts_count v_notes_count v_notes_book v_notes_sort v_notes_one v_casts_plain_rows v_notes_other v_casts_fitters).bind (un3 fun (r_22 : Int32) (v_casts_fitting_22 : Int32) (v_casts_fitters_22 : Nat → Int32) => (fX2_settings N v_inn_house_doors).bind (un1 fun (r_35 : Int32) => (fX0_tryOuts N 0 (r_35 - 1) v_casts_count v_casts_tried v_casts_trial_setting v_casts_trial_been v_inn_minutes v_inn_things v_inn_sleepers v_inn_listeners v_inn_house_rooms v_inn_house_doors v_inn_house_how v_casts_trial_ways_rooms v_casts_trial_ways_steps v_inn_house_one v_inn_house_other v_inn_thingIn v_casts_trial_thingIn v_inn_full v_casts_trial_full v_casts_trial_heardBy v_casts_dreams v_casts_trial_dreamOf v_casts_trial_stateOf v_inn_bed v_casts_trial_roomOf v_casts_trial_handOf v_casts_trial_awake v_casts_trial_how v_casts_trial_passed v_inn_states v_inn_house_creak v_inn_listensIn v_inn_house_ways_steps v_inn_house_cold v_inn_house_falls v_casts_set_rows v_casts_kin v_casts_plain_rows).bind (un18 fun (v_casts_tried_40 : Nat → Int32) (v_casts_trial_setting_40 : Int32) (v_casts_trial_been_40 : Int32) (v_casts_trial_ways_rooms_40 : Int32) (v_casts_trial_ways_steps_40 : Nat → Int32) (v_casts_trial_thingIn_40 : Nat → Int32) (v_casts_trial_full_40 : Nat → Int32) (v_casts_trial_heardBy_40 : Nat → Int64) (v_casts_trial_dreamOf_40 : Nat → Int32) (v_casts_trial_stateOf_40 : Nat → Int32) (v_casts_trial_roomOf_40 : Nat → Int32) (v_casts_trial_handOf_40 : Nat → Int32) (v_casts_trial_awake_40 : Nat → Int32) (v_casts_trial_how_40 : Nat → Int32) (v_casts_trial_passed_40 : Nat → Int32) (v_casts_set_rows_40 : Nat → Int64) (v_casts_kin_40 : Nat → Int32) (v_casts_plain_rows_40 : Nat → Int64) => (fX0_alikePairs N v_casts_fitting_22 v_inn_house_doors v_casts_fitters_22 v_casts_kin_40).bind (un1 fun (r_48 : Int32) => (fX10_answer N r_48).bind (un2 fun (r_51 : Int32) (v_refusal_51 : Int32) => some (r_51, v_refusal_51, v_casts_fitting_22, v_casts_plain_rows_40, v_casts_fitters_22, v_casts_tried_40, v_casts_trial_setting_40, v_casts_trial_been_40, v_casts_trial_ways_rooms_40, v_casts_trial_ways_steps_40, v_casts_trial_thingIn_40, v_casts_trial_full_40, v_casts_trial_heardBy_40, v_casts_trial_dreamOf_40, v_casts_trial_stateOf_40, v_casts_trial_roomOf_40, v_casts_trial_handOf_40, v_casts_trial_awake_40, v_casts_trial_how_40, v_casts_trial_passed_40, v_casts_set_rows_40, v_casts_kin_40))))))))
set_option maxHeartbeats 4000000 in
set_option maxRecDepth 100000 in
theorem ctX10_never (l : Launch) (E : EN) (h h_reader h_inn h_chosen h_night h_marks h_notes h_casts h_inn_house h_inn_thingIn h_inn_full h_inn_states h_inn_bed h_inn_dreamOf h_inn_listensIn h_casts_trial h_casts_dreams h_casts_plain h_casts_set h_casts_tried h_casts_kin h_casts_fitters h_notes_book h_notes_sort h_notes_one h_notes_other h_casts_plain_rows h_inn_house_creak h_inn_house_cold h_inn_house_one h_inn_house_other h_inn_house_how h_inn_house_falls h_inn_house_ways h_casts_trial_ways h_casts_trial_how h_casts_trial_passed h_casts_trial_dreamOf h_casts_trial_stateOf h_casts_trial_roomOf h_casts_trial_handOf h_casts_trial_awake h_casts_trial_thingIn h_casts_trial_full h_casts_trial_heardBy h_casts_trial_ways_steps h_inn_house_ways_steps h_casts_set_rows : Nat) (v_marked : Int32) (v_refusal : Int32) (v_latestFault : Int32) (v_faultPlace : Int32) (v_inn_minutes : Int32) (v_inn_things : Int32) (v_inn_dreams : Int32) (v_inn_sleepers : Int32) (v_inn_listeners : Int32) (v_casts_count : Int32) (v_casts_fitting : Int32) (v_notes_count : Int32) (v_notes_book : Nat → Int32) (v_notes_sort : Nat → Int32) (v_notes_one : Nat → Int32) (v_casts_plain_rows : Nat → Int64) (v_notes_other : Nat → Int32) (v_casts_fitters : Nat → Int32) (v_inn_house_rooms : Int32) (v_inn_house_doors : Int32) (v_casts_tried : Nat → Int32) (v_casts_trial_setting : Int32) (v_casts_trial_been : Int32) (v_inn_house_how : Nat → Int32) (v_casts_trial_ways_rooms : Int32) (v_casts_trial_ways_steps : Nat → Int32) (v_inn_house_one : Nat → Int32) (v_inn_house_other : Nat → Int32) (v_inn_thingIn : Nat → Int32) (v_casts_trial_thingIn : Nat → Int32) (v_inn_full : Nat → Int32) (v_casts_trial_full : Nat → Int32) (v_casts_trial_heardBy : Nat → Int64) (v_casts_dreams : Nat → Int32) (v_casts_trial_dreamOf : Nat → Int32) (v_casts_trial_stateOf : Nat → Int32) (v_inn_bed : Nat → Int32) (v_casts_trial_roomOf : Nat → Int32) (v_casts_trial_handOf : Nat → Int32) (v_casts_trial_awake : Nat → Int32) (v_casts_trial_how : Nat → Int32) (v_casts_trial_passed : Nat → Int32) (v_inn_states : Nat → Int32) (v_inn_house_creak : Nat → Int32) (v_inn_listensIn : Nat → Int32) (v_inn_house_ways_rooms : Int32) (v_inn_house_ways_steps : Nat → Int32) (v_inn_house_cold : Nat → Int32) (v_inn_house_falls : Nat → Int32) (v_casts_set_rows : Nat → Int64) (v_casts_kin : Nat → Int32) (N : Nat) (z : Int32 × Int32 × Int32 × (Nat → Int64) × (Nat → Int32) × (Nat → Int32) × Int32 × Int32 × Int32 × (Nat → Int32) × (Nat → Int32) × (Nat → Int32) × (Nat → Int64) × (Nat → Int32) × (Nat → Int32) × (Nat → Int32) × (Nat → Int32) × (Nat → Int32) × (Nat → Int32) × (Nat → Int32) × (Nat → Int64) × (Nat → Int32)) (hf : fX10_never N v_inn_minutes v_inn_things v_inn_sleepers v_inn_listeners v_casts_count v_casts_fitting v_notes_count v_notes_book v_notes_sort v_notes_one v_casts_plain_rows v_notes_other v_casts_fitters v_inn_house_rooms v_inn_house_doors v_casts_tried v_casts_trial_setting v_casts_trial_been v_inn_house_how v_casts_trial_ways_rooms v_casts_trial_ways_steps v_inn_house_one v_inn_house_other v_inn_thingIn v_casts_trial_thingIn v_inn_full v_casts_trial_full v_casts_trial_heardBy v_casts_dreams v_casts_trial_dreamOf v_casts_trial_stateOf v_inn_bed v_casts_trial_roomOf v_casts_trial_handOf v_casts_trial_awake v_casts_trial_how v_casts_trial_passed v_inn_states v_inn_house_creak v_inn_listensIn v_inn_house_ways_steps v_inn_house_cold v_inn_house_falls v_casts_set_rows v_casts_kin = some z) : CTi l E yX10_never cX10_never 1 .int 6 144 [.ref h] (wX10_never E h h_reader h_inn h_chosen h_night h_marks h_notes h_casts h_inn_house h_inn_thingIn h_inn_full h_inn_states h_inn_bed h_inn_dreamOf h_inn_listensIn h_casts_trial h_casts_dreams h_casts_plain h_casts_set h_casts_tried h_casts_kin h_casts_fitters h_notes_book h_notes_sort h_notes_one h_notes_other h_casts_plain_rows h_inn_house_creak h_inn_house_cold h_inn_house_one h_inn_house_other h_inn_house_how h_inn_house_falls h_inn_house_ways h_casts_trial_ways h_casts_trial_how h_casts_trial_passed h_casts_trial_dreamOf h_casts_trial_stateOf h_casts_trial_roomOf h_casts_trial_handOf h_casts_trial_awake h_casts_trial_thingIn h_casts_trial_full h_casts_trial_heardBy h_casts_trial_ways_steps h_inn_house_ways_steps h_casts_set_rows v_marked v_refusal v_latestFault v_faultPlace v_inn_minutes v_inn_things v_inn_dreams v_inn_sleepers v_inn_listeners v_casts_count v_casts_fitting v_notes_count v_notes_book v_notes_sort v_notes_one v_casts_plain_rows v_notes_other v_casts_fitters v_inn_house_rooms v_inn_house_doors v_casts_tried v_casts_trial_setting v_casts_trial_been v_inn_house_how v_casts_trial_ways_rooms v_casts_trial_ways_steps v_inn_house_one v_inn_house_other v_inn_thingIn v_casts_trial_thingIn v_inn_full v_casts_trial_full v_casts_trial_heardBy v_casts_dreams v_casts_trial_dreamOf v_casts_trial_stateOf v_inn_bed v_casts_trial_roomOf v_casts_trial_handOf v_casts_trial_awake v_casts_trial_how v_casts_trial_passed v_inn_states v_inn_house_creak v_inn_listensIn v_inn_house_ways_rooms v_inn_house_ways_steps v_inn_house_cold v_inn_house_falls v_casts_set_rows v_casts_kin) (z.1) (wX10_never E h h_reader h_inn h_chosen h_night h_marks h_notes h_casts h_inn_house h_inn_thingIn h_inn_full h_inn_states h_inn_bed h_inn_dreamOf h_inn_listensIn h_casts_trial h_casts_dreams h_casts_plain h_casts_set h_casts_tried h_casts_kin h_casts_fitters h_notes_book h_notes_sort h_notes_one h_notes_other h_casts_plain_rows h_inn_house_creak h_inn_house_cold h_inn_house_one h_inn_house_other h_inn_house_how h_inn_house_falls h_inn_house_ways h_casts_trial_ways h_casts_trial_how h_casts_trial_passed h_casts_trial_dreamOf h_casts_trial_stateOf h_casts_trial_roomOf h_casts_trial_handOf h_casts_trial_awake h_casts_trial_thingIn h_casts_trial_full h_casts_trial_heardBy h_casts_trial_ways_steps h_inn_house_ways_steps h_casts_set_rows v_marked z.2.1 v_latestFault v_faultPlace v_inn_minutes v_inn_things v_inn_dreams v_inn_sleepers v_inn_listeners v_casts_count z.2.2.1 v_notes_count v_notes_book v_notes_sort v_notes_one z.2.2.2.1 v_notes_other z.2.2.2.2.1 v_inn_house_rooms v_inn_house_doors z.2.2.2.2.2.1 z.2.2.2.2.2.2.1 z.2.2.2.2.2.2.2.1 v_inn_house_how z.2.2.2.2.2.2.2.2.1 z.2.2.2.2.2.2.2.2.2.1 v_inn_house_one v_inn_house_other v_inn_thingIn z.2.2.2.2.2.2.2.2.2.2.1 v_inn_full z.2.2.2.2.2.2.2.2.2.2.2.1 z.2.2.2.2.2.2.2.2.2.2.2.2.1 v_casts_dreams z.2.2.2.2.2.2.2.2.2.2.2.2.2.1 z.2.2.2.2.2.2.2.2.2.2.2.2.2.2.1 v_inn_bed z.2.2.2.2.2.2.2.2.2.2.2.2.2.2.2.1 z.2.2.2.2.2.2.2.2.2.2.2.2.2.2.2.2.1 z.2.2.2.2.2.2.2.2.2.2.2.2.2.2.2.2.2.1 z.2.2.2.2.2.2.2.2.2.2.2.2.2.2.2.2.2.2.1 z.2.2.2.2.2.2.2.2.2.2.2.2.2.2.2.2.2.2.2.1 v_inn_states v_inn_house_creak v_inn_listensIn v_inn_house_ways_rooms v_inn_house_ways_steps v_inn_house_cold v_inn_house_falls z.2.2.2.2.2.2.2.2.2.2.2.2.2.2.2.2.2.2.2.2.1 z.2.2.2.2.2.2.2.2.2.2.2.2.2.2.2.2.2.2.2.2.2) := by
  intro sz
  refine ct_body (by decide) (Nat.le_of_ble_eq_true rfl) ?_
  intro p e s m args below meth c A ls hAe C hr hin hP hD hS hl
  have C : CX p s m args meth c cX10_never RX10 1 E A := C
  have hl : lv_has ls 1 [(0, .ref h)] := hl
  have hx := C.1
  have hb := C.2.1
  rw [hAe]
  clear hAe
  obtain ⟨Q, hQ⟩ : ∃ Q, Q = MQ below (Qi E A (z.1) (wX10_never E h h_reader h_inn h_chosen h_night h_marks h_notes h_casts h_inn_house h_inn_thingIn h_inn_full h_inn_states h_inn_bed h_inn_dreamOf h_inn_listensIn h_casts_trial h_casts_dreams h_casts_plain h_casts_set h_casts_tried h_casts_kin h_casts_fitters h_notes_book h_notes_sort h_notes_one h_notes_other h_casts_plain_rows h_inn_house_creak h_inn_house_cold h_inn_house_one h_inn_house_other h_inn_house_how h_inn_house_falls h_inn_house_ways h_casts_trial_ways h_casts_trial_how h_casts_trial_passed h_casts_trial_dreamOf h_casts_trial_stateOf h_casts_trial_roomOf h_casts_trial_handOf h_casts_trial_awake h_casts_trial_thingIn h_casts_trial_full h_casts_trial_heardBy h_casts_trial_ways_steps h_inn_house_ways_steps h_casts_set_rows v_marked z.2.1 v_latestFault v_faultPlace v_inn_minutes v_inn_things v_inn_dreams v_inn_sleepers v_inn_listeners v_casts_count z.2.2.1 v_notes_count v_notes_book v_notes_sort v_notes_one z.2.2.2.1 v_notes_other z.2.2.2.2.1 v_inn_house_rooms v_inn_house_doors z.2.2.2.2.2.1 z.2.2.2.2.2.2.1 z.2.2.2.2.2.2.2.1 v_inn_house_how z.2.2.2.2.2.2.2.2.1 z.2.2.2.2.2.2.2.2.2.1 v_inn_house_one v_inn_house_other v_inn_thingIn z.2.2.2.2.2.2.2.2.2.2.1 v_inn_full z.2.2.2.2.2.2.2.2.2.2.2.1 z.2.2.2.2.2.2.2.2.2.2.2.2.1 v_casts_dreams z.2.2.2.2.2.2.2.2.2.2.2.2.2.1 z.2.2.2.2.2.2.2.2.2.2.2.2.2.2.1 v_inn_bed z.2.2.2.2.2.2.2.2.2.2.2.2.2.2.2.1 z.2.2.2.2.2.2.2.2.2.2.2.2.2.2.2.2.1 z.2.2.2.2.2.2.2.2.2.2.2.2.2.2.2.2.2.1 z.2.2.2.2.2.2.2.2.2.2.2.2.2.2.2.2.2.2.1 z.2.2.2.2.2.2.2.2.2.2.2.2.2.2.2.2.2.2.2.1 v_inn_states v_inn_house_creak v_inn_listensIn v_inn_house_ways_rooms v_inn_house_ways_steps v_inn_house_cold v_inn_house_falls z.2.2.2.2.2.2.2.2.2.2.2.2.2.2.2.2.2.2.2.2.1 z.2.2.2.2.2.2.2.2.2.2.2.2.2.2.2.2.2.2.2.2.2)) args s 0 0 A := ⟨_, rfl⟩
  rw [← hQ]
  unfold fX10_never at hf
  refine lv_aload_n (pc := 0) hx hb dX10_never_0 rfl (lv_at hl 0 rfl) ?_
  obtain ⟨r_1, hc_1, hf⟩ := bd1 hf
  refine r_dalVi (pc := 1) (ws' := (wX10_never E h h_reader h_inn h_chosen h_night h_marks h_notes h_casts h_inn_house h_inn_thingIn h_inn_full h_inn_states h_inn_bed h_inn_dreamOf h_inn_listensIn h_casts_trial h_casts_dreams h_casts_plain h_casts_set h_casts_tried h_casts_kin h_casts_fitters h_notes_book h_notes_sort h_notes_one h_notes_other h_casts_plain_rows h_inn_house_creak h_inn_house_cold h_inn_house_one h_inn_house_other h_inn_house_how h_inn_house_falls h_inn_house_ways h_casts_trial_ways h_casts_trial_how h_casts_trial_passed h_casts_trial_dreamOf h_casts_trial_stateOf h_casts_trial_roomOf h_casts_trial_handOf h_casts_trial_awake h_casts_trial_thingIn h_casts_trial_full h_casts_trial_heardBy h_casts_trial_ways_steps h_inn_house_ways_steps h_casts_set_rows v_marked v_refusal v_latestFault v_faultPlace v_inn_minutes v_inn_things v_inn_dreams v_inn_sleepers v_inn_listeners v_casts_count v_casts_fitting v_notes_count v_notes_book v_notes_sort v_notes_one v_casts_plain_rows v_notes_other v_casts_fitters v_inn_house_rooms v_inn_house_doors v_casts_tried v_casts_trial_setting v_casts_trial_been v_inn_house_how v_casts_trial_ways_rooms v_casts_trial_ways_steps v_inn_house_one v_inn_house_other v_inn_thingIn v_casts_trial_thingIn v_inn_full v_casts_trial_full v_casts_trial_heardBy v_casts_dreams v_casts_trial_dreamOf v_casts_trial_stateOf v_inn_bed v_casts_trial_roomOf v_casts_trial_handOf v_casts_trial_awake v_casts_trial_how v_casts_trial_passed v_inn_states v_inn_house_creak v_inn_listensIn v_inn_house_ways_rooms v_inn_house_ways_steps v_inn_house_cold v_inn_house_falls v_casts_set_rows v_casts_kin)) (As := []) (rest := []) C (ctX10_isTold l E h h_reader h_inn h_chosen h_night h_marks h_notes h_casts h_inn_house h_inn_thingIn h_inn_full h_inn_states h_inn_bed h_inn_dreamOf h_inn_listensIn v_marked v_refusal v_latestFault v_faultPlace v_inn_minutes v_inn_things v_inn_dreams v_inn_sleepers v_inn_listeners N r_1 hc_1) ml_X10_170 ⟨Nat.le_of_ble_eq_true rfl, Nat.le_of_ble_eq_true rfl⟩ hP hD hS 0 rfl rfl rfl [0, 1] [43, 44, 2, 3, 4, 5, 6, 7, 8, 9, 10, 11, 12, 13, 14, 15, 16, 17, 18, 19, 20, 21, 22, 23, 24, 25, 26, 27, 28, 29, 30, 31, 32, 33, 34, 35, 36, 37, 38, 39, 40, 41, 42] 43 rfl rfl rfl rfl rfl rfl rfl hl.1 rfl (Nat.le_of_ble_eq_true rfl) ⟨Nat.zero_le _, Nat.zero_le _⟩ dX10_never_1 ?_
  clear hP hD hS; intro H locs hP hD hS
  refine lv_if_ne (pc := 4) (tgt := 13) hx hb dX10_never_4 (by decide) (fun c_4 => ?_) (fun c_4 => ?_)
  · replace hf := it_f c_4 hf
    refine lv_aload_n (pc := 13) hx hb dX10_never_13 rfl (lv_at hl 0 rfl) ?_
    refine r_get (pc := 14) C hP 0 rfl fl_X10_50 rfl dX10_never_14 ?_
    refine lv_aload_n (pc := 17) hx hb dX10_never_17 rfl (lv_at hl 0 rfl) ?_
    refine r_get (pc := 18) C hP 0 rfl fl_X10_43 rfl dX10_never_18 ?_
    refine lv_iconst (pc := 21) (v := 3) hx hb dX10_never_21 (by decide) ?_
    obtain ⟨r_22, v_casts_fitting_22, v_casts_fitters_22, hc_22, hf⟩ := bd3 hf
    refine r_dalVi (pc := 22) (ws' := (wX10_never E h h_reader h_inn h_chosen h_night h_marks h_notes h_casts h_inn_house h_inn_thingIn h_inn_full h_inn_states h_inn_bed h_inn_dreamOf h_inn_listensIn h_casts_trial h_casts_dreams h_casts_plain h_casts_set h_casts_tried h_casts_kin h_casts_fitters h_notes_book h_notes_sort h_notes_one h_notes_other h_casts_plain_rows h_inn_house_creak h_inn_house_cold h_inn_house_one h_inn_house_other h_inn_house_how h_inn_house_falls h_inn_house_ways h_casts_trial_ways h_casts_trial_how h_casts_trial_passed h_casts_trial_dreamOf h_casts_trial_stateOf h_casts_trial_roomOf h_casts_trial_handOf h_casts_trial_awake h_casts_trial_thingIn h_casts_trial_full h_casts_trial_heardBy h_casts_trial_ways_steps h_inn_house_ways_steps h_casts_set_rows v_marked v_refusal v_latestFault v_faultPlace v_inn_minutes v_inn_things v_inn_dreams v_inn_sleepers v_inn_listeners v_casts_count v_casts_fitting_22 v_notes_count v_notes_book v_notes_sort v_notes_one v_casts_plain_rows v_notes_other v_casts_fitters_22 v_inn_house_rooms v_inn_house_doors v_casts_tried v_casts_trial_setting v_casts_trial_been v_inn_house_how v_casts_trial_ways_rooms v_casts_trial_ways_steps v_inn_house_one v_inn_house_other v_inn_thingIn v_casts_trial_thingIn v_inn_full v_casts_trial_full v_casts_trial_heardBy v_casts_dreams v_casts_trial_dreamOf v_casts_trial_stateOf v_inn_bed v_casts_trial_roomOf v_casts_trial_handOf v_casts_trial_awake v_casts_trial_how v_casts_trial_passed v_inn_states v_inn_house_creak v_inn_listensIn v_inn_house_ways_rooms v_inn_house_ways_steps v_inn_house_cold v_inn_house_falls v_casts_set_rows v_casts_kin)) (As := [.ref h_notes, .int 3]) (rest := []) C (ctX0_gather l E h_casts h_casts_trial h_inn h_casts_dreams h_casts_plain h_casts_set h_casts_tried h_casts_kin h_casts_fitters h_notes h_notes_book h_notes_sort h_notes_one h_notes_other h_casts_plain_rows v_casts_count v_casts_fitting v_notes_count v_notes_book v_notes_sort v_notes_one v_casts_plain_rows v_notes_other v_casts_fitters N 3 (r_22, v_casts_fitting_22, v_casts_fitters_22) hc_22) ml_X10_262 ⟨Nat.le_of_ble_eq_true rfl, Nat.le_of_ble_eq_true rfl⟩ hP hD hS 2 rfl rfl rfl [2, 3, 4, 5, 6, 7, 8, 9, 10] [0, 1, 43, 44, 45, 46, 47, 48, 49, 50, 51, 11, 12, 13, 14, 15, 16, 17, 18, 19, 20, 21, 22, 23, 24, 25, 26, 27, 28, 29, 30, 31, 32, 33, 34, 35, 36, 37, 38, 39, 40, 41, 42] 43 rfl rfl rfl rfl rfl rfl rfl hl.1 rfl (Nat.le_of_ble_eq_true rfl) ⟨Nat.zero_le _, Nat.zero_le _⟩ dX10_never_22 ?_
    clear hP hD hS; intro H locs hP hD hS
    refine lv_pop (pc := 25) hx hb dX10_never_25 rfl ?_
    refine lv_aload_n (pc := 26) hx hb dX10_never_26 rfl (lv_at hl 0 rfl) ?_
    refine r_get (pc := 27) C hP 0 rfl fl_X10_50 rfl dX10_never_27 ?_
    refine lv_iconst (pc := 30) (v := 0) hx hb dX10_never_30 (by decide) ?_
    refine lv_aload_n (pc := 31) hx hb dX10_never_31 rfl (lv_at hl 0 rfl) ?_
    refine r_get (pc := 32) C hP 0 rfl fl_X10_19 rfl dX10_never_32 ?_
    obtain ⟨r_35, hc_35, hf⟩ := bd1 hf
    refine r_dalVi (pc := 35) (ws' := (wX10_never E h h_reader h_inn h_chosen h_night h_marks h_notes h_casts h_inn_house h_inn_thingIn h_inn_full h_inn_states h_inn_bed h_inn_dreamOf h_inn_listensIn h_casts_trial h_casts_dreams h_casts_plain h_casts_set h_casts_tried h_casts_kin h_casts_fitters h_notes_book h_notes_sort h_notes_one h_notes_other h_casts_plain_rows h_inn_house_creak h_inn_house_cold h_inn_house_one h_inn_house_other h_inn_house_how h_inn_house_falls h_inn_house_ways h_casts_trial_ways h_casts_trial_how h_casts_trial_passed h_casts_trial_dreamOf h_casts_trial_stateOf h_casts_trial_roomOf h_casts_trial_handOf h_casts_trial_awake h_casts_trial_thingIn h_casts_trial_full h_casts_trial_heardBy h_casts_trial_ways_steps h_inn_house_ways_steps h_casts_set_rows v_marked v_refusal v_latestFault v_faultPlace v_inn_minutes v_inn_things v_inn_dreams v_inn_sleepers v_inn_listeners v_casts_count v_casts_fitting_22 v_notes_count v_notes_book v_notes_sort v_notes_one v_casts_plain_rows v_notes_other v_casts_fitters_22 v_inn_house_rooms v_inn_house_doors v_casts_tried v_casts_trial_setting v_casts_trial_been v_inn_house_how v_casts_trial_ways_rooms v_casts_trial_ways_steps v_inn_house_one v_inn_house_other v_inn_thingIn v_casts_trial_thingIn v_inn_full v_casts_trial_full v_casts_trial_heardBy v_casts_dreams v_casts_trial_dreamOf v_casts_trial_stateOf v_inn_bed v_casts_trial_roomOf v_casts_trial_handOf v_casts_trial_awake v_casts_trial_how v_casts_trial_passed v_inn_states v_inn_house_creak v_inn_listensIn v_inn_house_ways_rooms v_inn_house_ways_steps v_inn_house_cold v_inn_house_falls v_casts_set_rows v_casts_kin)) (As := []) (rest := [.int 0, .ref h_casts]) C (ctX2_settings l E h_inn h_inn_house h_inn_thingIn h_inn_full h_inn_states h_inn_bed h_inn_dreamOf h_inn_listensIn h_inn_house_creak h_inn_house_cold h_inn_house_one h_inn_house_other h_inn_house_how h_inn_house_falls h_inn_house_ways v_inn_minutes v_inn_things v_inn_dreams v_inn_sleepers v_inn_listeners v_inn_house_rooms v_inn_house_doors N r_35 hc_35) ml_X10_275 ⟨Nat.le_of_ble_eq_true rfl, Nat.le_of_ble_eq_true rfl⟩ hP hD hS 1 rfl rfl rfl [1, 11] [0, 43, 2, 3, 4, 5, 6, 7, 8, 9, 10, 44, 12, 13, 14, 15, 16, 17, 18, 19, 20, 21, 22, 23, 24, 25, 26, 27, 28, 29, 30, 31, 32, 33, 34, 35, 36, 37, 38, 39, 40, 41, 42] 43 rfl rfl rfl rfl rfl rfl rfl hl.1 rfl (Nat.le_of_ble_eq_true rfl) ⟨Nat.zero_le _, Nat.zero_le _⟩ dX10_never_35 ?_
    clear hP hD hS; intro H locs hP hD hS
    refine lv_iconst (pc := 38) (v := 1) hx hb dX10_never_38 (by decide) ?_
    refine lv_isub (pc := 39) hx hb dX10_never_39 ?_
    obtain ⟨v_casts_tried_40, v_casts_trial_setting_40, v_casts_trial_been_40, v_casts_trial_ways_rooms_40, v_casts_trial_ways_steps_40, v_casts_trial_thingIn_40, v_casts_trial_full_40, v_casts_trial_heardBy_40, v_casts_trial_dreamOf_40, v_casts_trial_stateOf_40, v_casts_trial_roomOf_40, v_casts_trial_handOf_40, v_casts_trial_awake_40, v_casts_trial_how_40, v_casts_trial_passed_40, v_casts_set_rows_40, v_casts_kin_40, v_casts_plain_rows_40, hc_40, hf⟩ := bd18 hf
    refine r_dalVv (pc := 40) (ws' := (wX10_never E h h_reader h_inn h_chosen h_night h_marks h_notes h_casts h_inn_house h_inn_thingIn h_inn_full h_inn_states h_inn_bed h_inn_dreamOf h_inn_listensIn h_casts_trial h_casts_dreams h_casts_plain h_casts_set h_casts_tried h_casts_kin h_casts_fitters h_notes_book h_notes_sort h_notes_one h_notes_other h_casts_plain_rows h_inn_house_creak h_inn_house_cold h_inn_house_one h_inn_house_other h_inn_house_how h_inn_house_falls h_inn_house_ways h_casts_trial_ways h_casts_trial_how h_casts_trial_passed h_casts_trial_dreamOf h_casts_trial_stateOf h_casts_trial_roomOf h_casts_trial_handOf h_casts_trial_awake h_casts_trial_thingIn h_casts_trial_full h_casts_trial_heardBy h_casts_trial_ways_steps h_inn_house_ways_steps h_casts_set_rows v_marked v_refusal v_latestFault v_faultPlace v_inn_minutes v_inn_things v_inn_dreams v_inn_sleepers v_inn_listeners v_casts_count v_casts_fitting_22 v_notes_count v_notes_book v_notes_sort v_notes_one v_casts_plain_rows_40 v_notes_other v_casts_fitters_22 v_inn_house_rooms v_inn_house_doors v_casts_tried_40 v_casts_trial_setting_40 v_casts_trial_been_40 v_inn_house_how v_casts_trial_ways_rooms_40 v_casts_trial_ways_steps_40 v_inn_house_one v_inn_house_other v_inn_thingIn v_casts_trial_thingIn_40 v_inn_full v_casts_trial_full_40 v_casts_trial_heardBy_40 v_casts_dreams v_casts_trial_dreamOf_40 v_casts_trial_stateOf_40 v_inn_bed v_casts_trial_roomOf_40 v_casts_trial_handOf_40 v_casts_trial_awake_40 v_casts_trial_how_40 v_casts_trial_passed_40 v_inn_states v_inn_house_creak v_inn_listensIn v_inn_house_ways_rooms v_inn_house_ways_steps v_inn_house_cold v_inn_house_falls v_casts_set_rows_40 v_casts_kin_40)) (As := [.int 0, .int (r_35 - 1)]) (rest := []) C (ctX0_tryOuts l E h_casts h_casts_trial h_inn h_casts_dreams h_casts_plain h_casts_set h_casts_tried h_casts_kin h_casts_fitters h_casts_trial_ways h_casts_trial_how h_casts_trial_passed h_casts_trial_dreamOf h_casts_trial_stateOf h_casts_trial_roomOf h_casts_trial_handOf h_casts_trial_awake h_casts_trial_thingIn h_casts_trial_full h_casts_trial_heardBy h_inn_house h_inn_thingIn h_inn_full h_inn_states h_inn_bed h_inn_dreamOf h_inn_listensIn h_inn_house_creak h_inn_house_cold h_inn_house_one h_inn_house_other h_inn_house_how h_inn_house_falls h_inn_house_ways h_casts_trial_ways_steps h_inn_house_ways_steps h_casts_set_rows h_casts_plain_rows v_casts_count v_casts_fitting_22 v_casts_tried v_casts_trial_setting v_casts_trial_been v_inn_minutes v_inn_things v_inn_dreams v_inn_sleepers v_inn_listeners v_inn_house_rooms v_inn_house_doors v_inn_house_how v_casts_trial_ways_rooms v_casts_trial_ways_steps v_inn_house_one v_inn_house_other v_inn_thingIn v_casts_trial_thingIn v_inn_full v_casts_trial_full v_casts_trial_heardBy v_casts_dreams v_casts_trial_dreamOf v_casts_trial_stateOf v_inn_bed v_casts_trial_roomOf v_casts_trial_handOf v_casts_trial_awake v_casts_trial_how v_casts_trial_passed v_inn_states v_inn_house_creak v_inn_listensIn v_inn_house_ways_rooms v_inn_house_ways_steps v_inn_house_cold v_inn_house_falls v_casts_set_rows v_casts_kin v_casts_plain_rows N 0 (r_35 - 1) (v_casts_tried_40, v_casts_trial_setting_40, v_casts_trial_been_40, v_casts_trial_ways_rooms_40, v_casts_trial_ways_steps_40, v_casts_trial_thingIn_40, v_casts_trial_full_40, v_casts_trial_heardBy_40, v_casts_trial_dreamOf_40, v_casts_trial_stateOf_40, v_casts_trial_roomOf_40, v_casts_trial_handOf_40, v_casts_trial_awake_40, v_casts_trial_how_40, v_casts_trial_passed_40, v_casts_set_rows_40, v_casts_kin_40, v_casts_plain_rows_40) hc_40) ml_X10_88 ⟨Nat.le_of_ble_eq_true rfl, Nat.le_of_ble_eq_true rfl⟩ hP hD hS 2 rfl rfl rfl [2, 12, 13, 1, 11, 14, 15, 16, 17, 18, 19, 20, 21, 22, 23, 24, 25, 26, 27, 28, 29, 30, 31, 32, 33, 34, 35, 36, 37, 38, 39, 40, 41, 42, 7, 8] [0, 46, 43, 3, 4, 5, 6, 77, 78, 9, 10, 47, 44, 45, 48, 49, 50, 51, 52, 53, 54, 55, 56, 57, 58, 59, 60, 61, 62, 63, 64, 65, 66, 67, 68, 69, 70, 71, 72, 73, 74, 75, 76] 43 rfl rfl rfl rfl rfl rfl rfl hl.1 rfl (Nat.le_of_ble_eq_true rfl) ⟨Nat.zero_le _, Nat.zero_le _⟩ dX10_never_40 ?_
    clear hP hD hS; intro H locs hP hD hS
    refine lv_aload_n (pc := 43) hx hb dX10_never_43 rfl (lv_at hl 0 rfl) ?_
    refine lv_aload_n (pc := 44) hx hb dX10_never_44 rfl (lv_at hl 0 rfl) ?_
    refine r_get (pc := 45) C hP 0 rfl fl_X10_50 rfl dX10_never_45 ?_
    obtain ⟨r_48, hc_48, hf⟩ := bd1 hf
    refine r_dalVi (pc := 48) (ws' := (wX10_never E h h_reader h_inn h_chosen h_night h_marks h_notes h_casts h_inn_house h_inn_thingIn h_inn_full h_inn_states h_inn_bed h_inn_dreamOf h_inn_listensIn h_casts_trial h_casts_dreams h_casts_plain h_casts_set h_casts_tried h_casts_kin h_casts_fitters h_notes_book h_notes_sort h_notes_one h_notes_other h_casts_plain_rows h_inn_house_creak h_inn_house_cold h_inn_house_one h_inn_house_other h_inn_house_how h_inn_house_falls h_inn_house_ways h_casts_trial_ways h_casts_trial_how h_casts_trial_passed h_casts_trial_dreamOf h_casts_trial_stateOf h_casts_trial_roomOf h_casts_trial_handOf h_casts_trial_awake h_casts_trial_thingIn h_casts_trial_full h_casts_trial_heardBy h_casts_trial_ways_steps h_inn_house_ways_steps h_casts_set_rows v_marked v_refusal v_latestFault v_faultPlace v_inn_minutes v_inn_things v_inn_dreams v_inn_sleepers v_inn_listeners v_casts_count v_casts_fitting_22 v_notes_count v_notes_book v_notes_sort v_notes_one v_casts_plain_rows_40 v_notes_other v_casts_fitters_22 v_inn_house_rooms v_inn_house_doors v_casts_tried_40 v_casts_trial_setting_40 v_casts_trial_been_40 v_inn_house_how v_casts_trial_ways_rooms_40 v_casts_trial_ways_steps_40 v_inn_house_one v_inn_house_other v_inn_thingIn v_casts_trial_thingIn_40 v_inn_full v_casts_trial_full_40 v_casts_trial_heardBy_40 v_casts_dreams v_casts_trial_dreamOf_40 v_casts_trial_stateOf_40 v_inn_bed v_casts_trial_roomOf_40 v_casts_trial_handOf_40 v_casts_trial_awake_40 v_casts_trial_how_40 v_casts_trial_passed_40 v_inn_states v_inn_house_creak v_inn_listensIn v_inn_house_ways_rooms v_inn_house_ways_steps v_inn_house_cold v_inn_house_falls v_casts_set_rows_40 v_casts_kin_40)) (As := []) (rest := [.ref h]) C (ctX0_alikePairs l E h_casts h_casts_trial h_inn h_casts_dreams h_casts_plain h_casts_set h_casts_tried h_casts_kin h_casts_fitters h_inn_house h_inn_thingIn h_inn_full h_inn_states h_inn_bed h_inn_dreamOf h_inn_listensIn h_inn_house_creak h_inn_house_cold h_inn_house_one h_inn_house_other h_inn_house_how h_inn_house_falls h_inn_house_ways v_casts_count v_casts_fitting_22 v_inn_minutes v_inn_things v_inn_dreams v_inn_sleepers v_inn_listeners v_inn_house_rooms v_inn_house_doors v_casts_fitters_22 v_casts_kin_40 N r_48 hc_48) ml_X10_285 ⟨Nat.le_of_ble_eq_true rfl, Nat.le_of_ble_eq_true rfl⟩ hP hD hS 2 rfl rfl rfl [2, 1, 11, 10, 42] [0, 44, 43, 3, 4, 5, 6, 7, 8, 9, 46, 45, 12, 13, 14, 15, 16, 17, 18, 19, 20, 21, 22, 23, 24, 25, 26, 27, 28, 29, 30, 31, 32, 33, 34, 35, 36, 37, 38, 39, 40, 41, 47] 43 rfl rfl rfl rfl rfl rfl rfl hl.1 rfl (Nat.le_of_ble_eq_true rfl) ⟨Nat.zero_le _, Nat.zero_le _⟩ dX10_never_48 ?_
    clear hP hD hS; intro H locs hP hD hS
    obtain ⟨r_51, v_refusal_51, hc_51, hf⟩ := bd2 hf
    refine r_dalVi (pc := 51) (ws' := (wX10_never E h h_reader h_inn h_chosen h_night h_marks h_notes h_casts h_inn_house h_inn_thingIn h_inn_full h_inn_states h_inn_bed h_inn_dreamOf h_inn_listensIn h_casts_trial h_casts_dreams h_casts_plain h_casts_set h_casts_tried h_casts_kin h_casts_fitters h_notes_book h_notes_sort h_notes_one h_notes_other h_casts_plain_rows h_inn_house_creak h_inn_house_cold h_inn_house_one h_inn_house_other h_inn_house_how h_inn_house_falls h_inn_house_ways h_casts_trial_ways h_casts_trial_how h_casts_trial_passed h_casts_trial_dreamOf h_casts_trial_stateOf h_casts_trial_roomOf h_casts_trial_handOf h_casts_trial_awake h_casts_trial_thingIn h_casts_trial_full h_casts_trial_heardBy h_casts_trial_ways_steps h_inn_house_ways_steps h_casts_set_rows v_marked v_refusal_51 v_latestFault v_faultPlace v_inn_minutes v_inn_things v_inn_dreams v_inn_sleepers v_inn_listeners v_casts_count v_casts_fitting_22 v_notes_count v_notes_book v_notes_sort v_notes_one v_casts_plain_rows_40 v_notes_other v_casts_fitters_22 v_inn_house_rooms v_inn_house_doors v_casts_tried_40 v_casts_trial_setting_40 v_casts_trial_been_40 v_inn_house_how v_casts_trial_ways_rooms_40 v_casts_trial_ways_steps_40 v_inn_house_one v_inn_house_other v_inn_thingIn v_casts_trial_thingIn_40 v_inn_full v_casts_trial_full_40 v_casts_trial_heardBy_40 v_casts_dreams v_casts_trial_dreamOf_40 v_casts_trial_stateOf_40 v_inn_bed v_casts_trial_roomOf_40 v_casts_trial_handOf_40 v_casts_trial_awake_40 v_casts_trial_how_40 v_casts_trial_passed_40 v_inn_states v_inn_house_creak v_inn_listensIn v_inn_house_ways_rooms v_inn_house_ways_steps v_inn_house_cold v_inn_house_falls v_casts_set_rows_40 v_casts_kin_40)) (As := [.int r_48]) (rest := []) C (ctX10_answer l E h h_reader h_inn h_chosen h_night h_marks h_notes h_casts v_marked v_refusal v_latestFault v_faultPlace N r_48 (r_51, v_refusal_51) hc_51) ml_X10_95 ⟨Nat.le_of_ble_eq_true rfl, Nat.le_of_ble_eq_true rfl⟩ hP hD hS 0 rfl rfl rfl [0] [43, 1, 2, 3, 4, 5, 6, 7, 8, 9, 10, 11, 12, 13, 14, 15, 16, 17, 18, 19, 20, 21, 22, 23, 24, 25, 26, 27, 28, 29, 30, 31, 32, 33, 34, 35, 36, 37, 38, 39, 40, 41, 42] 43 rfl rfl rfl rfl rfl rfl rfl hl.1 rfl (Nat.le_of_ble_eq_true rfl) ⟨Nat.zero_le _, Nat.zero_le _⟩ dX10_never_51 ?_
    clear hP hD hS; intro H locs hP hD hS
    cases hf
    rw [hQ]
    exact r_iret C hr hP hD hS rfl dX10_never_54
  · replace hf := it_t c_4 hf
    refine lv_aload_n (pc := 7) hx hb dX10_never_7 rfl (lv_at hl 0 rfl) ?_
    refine lv_iconst (pc := 8) (v := 1) hx hb dX10_never_8 (by decide) ?_
    obtain ⟨r_9, v_refusal_9, hc_9, hf⟩ := bd2 hf
    refine r_dalVi (pc := 9) (ws' := (wX10_never E h h_reader h_inn h_chosen h_night h_marks h_notes h_casts h_inn_house h_inn_thingIn h_inn_full h_inn_states h_inn_bed h_inn_dreamOf h_inn_listensIn h_casts_trial h_casts_dreams h_casts_plain h_casts_set h_casts_tried h_casts_kin h_casts_fitters h_notes_book h_notes_sort h_notes_one h_notes_other h_casts_plain_rows h_inn_house_creak h_inn_house_cold h_inn_house_one h_inn_house_other h_inn_house_how h_inn_house_falls h_inn_house_ways h_casts_trial_ways h_casts_trial_how h_casts_trial_passed h_casts_trial_dreamOf h_casts_trial_stateOf h_casts_trial_roomOf h_casts_trial_handOf h_casts_trial_awake h_casts_trial_thingIn h_casts_trial_full h_casts_trial_heardBy h_casts_trial_ways_steps h_inn_house_ways_steps h_casts_set_rows v_marked v_refusal_9 v_latestFault v_faultPlace v_inn_minutes v_inn_things v_inn_dreams v_inn_sleepers v_inn_listeners v_casts_count v_casts_fitting v_notes_count v_notes_book v_notes_sort v_notes_one v_casts_plain_rows v_notes_other v_casts_fitters v_inn_house_rooms v_inn_house_doors v_casts_tried v_casts_trial_setting v_casts_trial_been v_inn_house_how v_casts_trial_ways_rooms v_casts_trial_ways_steps v_inn_house_one v_inn_house_other v_inn_thingIn v_casts_trial_thingIn v_inn_full v_casts_trial_full v_casts_trial_heardBy v_casts_dreams v_casts_trial_dreamOf v_casts_trial_stateOf v_inn_bed v_casts_trial_roomOf v_casts_trial_handOf v_casts_trial_awake v_casts_trial_how v_casts_trial_passed v_inn_states v_inn_house_creak v_inn_listensIn v_inn_house_ways_rooms v_inn_house_ways_steps v_inn_house_cold v_inn_house_falls v_casts_set_rows v_casts_kin)) (As := [.int 1]) (rest := []) C (ctX10_refuse l E h h_reader h_inn h_chosen h_night h_marks h_notes h_casts v_marked v_refusal v_latestFault v_faultPlace N 1 (r_9, v_refusal_9) hc_9) ml_X10_68 ⟨Nat.le_of_ble_eq_true rfl, Nat.le_of_ble_eq_true rfl⟩ hP hD hS 0 rfl rfl rfl [0] [43, 1, 2, 3, 4, 5, 6, 7, 8, 9, 10, 11, 12, 13, 14, 15, 16, 17, 18, 19, 20, 21, 22, 23, 24, 25, 26, 27, 28, 29, 30, 31, 32, 33, 34, 35, 36, 37, 38, 39, 40, 41, 42] 43 rfl rfl rfl rfl rfl rfl rfl hl.1 rfl (Nat.le_of_ble_eq_true rfl) ⟨Nat.zero_le _, Nat.zero_le _⟩ dX10_never_9 ?_
    clear hP hD hS; intro H locs hP hD hS
    cases hf
    rw [hQ]
    exact r_iret C hr hP hD hS rfl dX10_never_12
def wJ6_bitCount_0f7a4 (E : EN) : va_W := []
def fJ6_bitCount_0f7a4 (N : Nat) (p0 : Int32) : Option Int32 := some ((((((((p0 - (((p0.toUInt32 >>> ((1 : Int32).toUInt32 &&& Int32.toUInt32 31)).toInt32) &&& 1431655765)) &&& 858993459) + ((((p0 - (((p0.toUInt32 >>> ((1 : Int32).toUInt32 &&& Int32.toUInt32 31)).toInt32) &&& 1431655765)).toUInt32 >>> ((2 : Int32).toUInt32 &&& Int32.toUInt32 31)).toInt32) &&& 858993459)) + (((((p0 - (((p0.toUInt32 >>> ((1 : Int32).toUInt32 &&& Int32.toUInt32 31)).toInt32) &&& 1431655765)) &&& 858993459) + ((((p0 - (((p0.toUInt32 >>> ((1 : Int32).toUInt32 &&& Int32.toUInt32 31)).toInt32) &&& 1431655765)).toUInt32 >>> ((2 : Int32).toUInt32 &&& Int32.toUInt32 31)).toInt32) &&& 858993459)).toUInt32 >>> ((4 : Int32).toUInt32 &&& Int32.toUInt32 31)).toInt32)) &&& 252645135) + (((((((p0 - (((p0.toUInt32 >>> ((1 : Int32).toUInt32 &&& Int32.toUInt32 31)).toInt32) &&& 1431655765)) &&& 858993459) + ((((p0 - (((p0.toUInt32 >>> ((1 : Int32).toUInt32 &&& Int32.toUInt32 31)).toInt32) &&& 1431655765)).toUInt32 >>> ((2 : Int32).toUInt32 &&& Int32.toUInt32 31)).toInt32) &&& 858993459)) + (((((p0 - (((p0.toUInt32 >>> ((1 : Int32).toUInt32 &&& Int32.toUInt32 31)).toInt32) &&& 1431655765)) &&& 858993459) + ((((p0 - (((p0.toUInt32 >>> ((1 : Int32).toUInt32 &&& Int32.toUInt32 31)).toInt32) &&& 1431655765)).toUInt32 >>> ((2 : Int32).toUInt32 &&& Int32.toUInt32 31)).toInt32) &&& 858993459)).toUInt32 >>> ((4 : Int32).toUInt32 &&& Int32.toUInt32 31)).toInt32)) &&& 252645135).toUInt32 >>> ((8 : Int32).toUInt32 &&& Int32.toUInt32 31)).toInt32)) + ((((((((p0 - (((p0.toUInt32 >>> ((1 : Int32).toUInt32 &&& Int32.toUInt32 31)).toInt32) &&& 1431655765)) &&& 858993459) + ((((p0 - (((p0.toUInt32 >>> ((1 : Int32).toUInt32 &&& Int32.toUInt32 31)).toInt32) &&& 1431655765)).toUInt32 >>> ((2 : Int32).toUInt32 &&& Int32.toUInt32 31)).toInt32) &&& 858993459)) + (((((p0 - (((p0.toUInt32 >>> ((1 : Int32).toUInt32 &&& Int32.toUInt32 31)).toInt32) &&& 1431655765)) &&& 858993459) + ((((p0 - (((p0.toUInt32 >>> ((1 : Int32).toUInt32 &&& Int32.toUInt32 31)).toInt32) &&& 1431655765)).toUInt32 >>> ((2 : Int32).toUInt32 &&& Int32.toUInt32 31)).toInt32) &&& 858993459)).toUInt32 >>> ((4 : Int32).toUInt32 &&& Int32.toUInt32 31)).toInt32)) &&& 252645135) + (((((((p0 - (((p0.toUInt32 >>> ((1 : Int32).toUInt32 &&& Int32.toUInt32 31)).toInt32) &&& 1431655765)) &&& 858993459) + ((((p0 - (((p0.toUInt32 >>> ((1 : Int32).toUInt32 &&& Int32.toUInt32 31)).toInt32) &&& 1431655765)).toUInt32 >>> ((2 : Int32).toUInt32 &&& Int32.toUInt32 31)).toInt32) &&& 858993459)) + (((((p0 - (((p0.toUInt32 >>> ((1 : Int32).toUInt32 &&& Int32.toUInt32 31)).toInt32) &&& 1431655765)) &&& 858993459) + ((((p0 - (((p0.toUInt32 >>> ((1 : Int32).toUInt32 &&& Int32.toUInt32 31)).toInt32) &&& 1431655765)).toUInt32 >>> ((2 : Int32).toUInt32 &&& Int32.toUInt32 31)).toInt32) &&& 858993459)).toUInt32 >>> ((4 : Int32).toUInt32 &&& Int32.toUInt32 31)).toInt32)) &&& 252645135).toUInt32 >>> ((8 : Int32).toUInt32 &&& Int32.toUInt32 31)).toInt32)).toUInt32 >>> ((16 : Int32).toUInt32 &&& Int32.toUInt32 31)).toInt32)) &&& 63)
set_option maxHeartbeats 4000000 in
set_option maxRecDepth 100000 in
theorem ctJ6_bitCount_0f7a4 (l : Launch) (E : EN) (N : Nat) (p0 : Int32) (z : Int32) (hf : fJ6_bitCount_0f7a4 N p0 = some z) : CTi l E yJ6_bitCount_0f7a4 cJ6_bitCount_0f7a4 1 .int 0 0 [.int p0] (wJ6_bitCount_0f7a4 E) (z) (wJ6_bitCount_0f7a4 E) := by
  intro sz
  refine ct_body (by decide) (Nat.le_of_ble_eq_true rfl) ?_
  intro p e s m args below meth c A ls hAe C hr hin hP hD hS hl
  have C : CX p s m args meth c cJ6_bitCount_0f7a4 RJ6 1 E A := C
  have hl : lv_has ls 1 [(0, .int p0)] := hl
  have hx := C.1
  have hb := C.2.1
  rw [hAe]
  clear hAe
  obtain ⟨Q, hQ⟩ : ∃ Q, Q = MQ below (Qi E A (z) (wJ6_bitCount_0f7a4 E)) args s 0 0 A := ⟨_, rfl⟩
  rw [← hQ]
  unfold fJ6_bitCount_0f7a4 at hf
  refine lv_iload_n (pc := 0) hx hb dJ6_bitCount_0f7a4_0 rfl (lv_at hl 0 rfl) ?_
  refine lv_iload_n (pc := 1) hx hb dJ6_bitCount_0f7a4_1 rfl (lv_at hl 0 rfl) ?_
  refine lv_iconst (pc := 2) (v := 1) hx hb dJ6_bitCount_0f7a4_2 (by decide) ?_
  refine lv_iushr (pc := 3) (v := (p0.toUInt32 >>> ((1 : Int32).toUInt32 &&& Int32.toUInt32 31)).toInt32) hx hb dJ6_bitCount_0f7a4_3 rfl ?_
  refine r_ldcw (pc := 4) (v := 1431655765) C kc_J6_265 dJ6_bitCount_0f7a4_4 ?_
  refine lv_iand (pc := 7) hx hb dJ6_bitCount_0f7a4_7 ?_
  refine lv_isub (pc := 8) hx hb dJ6_bitCount_0f7a4_8 ?_
  refine lv_istore_n (pc := 9) (lv' := [(0, .int (p0 - (((p0.toUInt32 >>> ((1 : Int32).toUInt32 &&& Int32.toUInt32 31)).toInt32) &&& 1431655765)))]) hx hb dJ6_bitCount_0f7a4_9 rfl hl (by decide) rfl (fun ls hl => ?_)
  refine lv_iload_n (pc := 10) hx hb dJ6_bitCount_0f7a4_10 rfl (lv_at hl 0 rfl) ?_
  refine r_ldcw (pc := 11) (v := 858993459) C kc_J6_266 dJ6_bitCount_0f7a4_11 ?_
  refine lv_iand (pc := 14) hx hb dJ6_bitCount_0f7a4_14 ?_
  refine lv_iload_n (pc := 15) hx hb dJ6_bitCount_0f7a4_15 rfl (lv_at hl 0 rfl) ?_
  refine lv_iconst (pc := 16) (v := 2) hx hb dJ6_bitCount_0f7a4_16 (by decide) ?_
  refine lv_iushr (pc := 17) (v := ((p0 - (((p0.toUInt32 >>> ((1 : Int32).toUInt32 &&& Int32.toUInt32 31)).toInt32) &&& 1431655765)).toUInt32 >>> ((2 : Int32).toUInt32 &&& Int32.toUInt32 31)).toInt32) hx hb dJ6_bitCount_0f7a4_17 rfl ?_
  refine r_ldcw (pc := 18) (v := 858993459) C kc_J6_266 dJ6_bitCount_0f7a4_18 ?_
  refine lv_iand (pc := 21) hx hb dJ6_bitCount_0f7a4_21 ?_
  refine lv_iadd (pc := 22) hx hb dJ6_bitCount_0f7a4_22 ?_
  refine lv_istore_n (pc := 23) (lv' := [(0, .int (((p0 - (((p0.toUInt32 >>> ((1 : Int32).toUInt32 &&& Int32.toUInt32 31)).toInt32) &&& 1431655765)) &&& 858993459) + ((((p0 - (((p0.toUInt32 >>> ((1 : Int32).toUInt32 &&& Int32.toUInt32 31)).toInt32) &&& 1431655765)).toUInt32 >>> ((2 : Int32).toUInt32 &&& Int32.toUInt32 31)).toInt32) &&& 858993459)))]) hx hb dJ6_bitCount_0f7a4_23 rfl hl (by decide) rfl (fun ls hl => ?_)
  refine lv_iload_n (pc := 24) hx hb dJ6_bitCount_0f7a4_24 rfl (lv_at hl 0 rfl) ?_
  refine lv_iload_n (pc := 25) hx hb dJ6_bitCount_0f7a4_25 rfl (lv_at hl 0 rfl) ?_
  refine lv_iconst (pc := 26) (v := 4) hx hb dJ6_bitCount_0f7a4_26 (by decide) ?_
  refine lv_iushr (pc := 27) (v := ((((p0 - (((p0.toUInt32 >>> ((1 : Int32).toUInt32 &&& Int32.toUInt32 31)).toInt32) &&& 1431655765)) &&& 858993459) + ((((p0 - (((p0.toUInt32 >>> ((1 : Int32).toUInt32 &&& Int32.toUInt32 31)).toInt32) &&& 1431655765)).toUInt32 >>> ((2 : Int32).toUInt32 &&& Int32.toUInt32 31)).toInt32) &&& 858993459)).toUInt32 >>> ((4 : Int32).toUInt32 &&& Int32.toUInt32 31)).toInt32) hx hb dJ6_bitCount_0f7a4_27 rfl ?_
  refine lv_iadd (pc := 28) hx hb dJ6_bitCount_0f7a4_28 ?_
  refine r_ldcw (pc := 29) (v := 252645135) C kc_J6_267 dJ6_bitCount_0f7a4_29 ?_
  refine lv_iand (pc := 32) hx hb dJ6_bitCount_0f7a4_32 ?_
  refine lv_istore_n (pc := 33) (lv' := [(0, .int (((((p0 - (((p0.toUInt32 >>> ((1 : Int32).toUInt32 &&& Int32.toUInt32 31)).toInt32) &&& 1431655765)) &&& 858993459) + ((((p0 - (((p0.toUInt32 >>> ((1 : Int32).toUInt32 &&& Int32.toUInt32 31)).toInt32) &&& 1431655765)).toUInt32 >>> ((2 : Int32).toUInt32 &&& Int32.toUInt32 31)).toInt32) &&& 858993459)) + (((((p0 - (((p0.toUInt32 >>> ((1 : Int32).toUInt32 &&& Int32.toUInt32 31)).toInt32) &&& 1431655765)) &&& 858993459) + ((((p0 - (((p0.toUInt32 >>> ((1 : Int32).toUInt32 &&& Int32.toUInt32 31)).toInt32) &&& 1431655765)).toUInt32 >>> ((2 : Int32).toUInt32 &&& Int32.toUInt32 31)).toInt32) &&& 858993459)).toUInt32 >>> ((4 : Int32).toUInt32 &&& Int32.toUInt32 31)).toInt32)) &&& 252645135))]) hx hb dJ6_bitCount_0f7a4_33 rfl hl (by decide) rfl (fun ls hl => ?_)
  refine lv_iload_n (pc := 34) hx hb dJ6_bitCount_0f7a4_34 rfl (lv_at hl 0 rfl) ?_
  refine lv_iload_n (pc := 35) hx hb dJ6_bitCount_0f7a4_35 rfl (lv_at hl 0 rfl) ?_
  refine lv_bipush (pc := 36) (v := 8) hx hb dJ6_bitCount_0f7a4_36 (by decide) ?_
  refine lv_iushr (pc := 38) (v := ((((((p0 - (((p0.toUInt32 >>> ((1 : Int32).toUInt32 &&& Int32.toUInt32 31)).toInt32) &&& 1431655765)) &&& 858993459) + ((((p0 - (((p0.toUInt32 >>> ((1 : Int32).toUInt32 &&& Int32.toUInt32 31)).toInt32) &&& 1431655765)).toUInt32 >>> ((2 : Int32).toUInt32 &&& Int32.toUInt32 31)).toInt32) &&& 858993459)) + (((((p0 - (((p0.toUInt32 >>> ((1 : Int32).toUInt32 &&& Int32.toUInt32 31)).toInt32) &&& 1431655765)) &&& 858993459) + ((((p0 - (((p0.toUInt32 >>> ((1 : Int32).toUInt32 &&& Int32.toUInt32 31)).toInt32) &&& 1431655765)).toUInt32 >>> ((2 : Int32).toUInt32 &&& Int32.toUInt32 31)).toInt32) &&& 858993459)).toUInt32 >>> ((4 : Int32).toUInt32 &&& Int32.toUInt32 31)).toInt32)) &&& 252645135).toUInt32 >>> ((8 : Int32).toUInt32 &&& Int32.toUInt32 31)).toInt32) hx hb dJ6_bitCount_0f7a4_38 rfl ?_
  refine lv_iadd (pc := 39) hx hb dJ6_bitCount_0f7a4_39 ?_
  refine lv_istore_n (pc := 40) (lv' := [(0, .int ((((((p0 - (((p0.toUInt32 >>> ((1 : Int32).toUInt32 &&& Int32.toUInt32 31)).toInt32) &&& 1431655765)) &&& 858993459) + ((((p0 - (((p0.toUInt32 >>> ((1 : Int32).toUInt32 &&& Int32.toUInt32 31)).toInt32) &&& 1431655765)).toUInt32 >>> ((2 : Int32).toUInt32 &&& Int32.toUInt32 31)).toInt32) &&& 858993459)) + (((((p0 - (((p0.toUInt32 >>> ((1 : Int32).toUInt32 &&& Int32.toUInt32 31)).toInt32) &&& 1431655765)) &&& 858993459) + ((((p0 - (((p0.toUInt32 >>> ((1 : Int32).toUInt32 &&& Int32.toUInt32 31)).toInt32) &&& 1431655765)).toUInt32 >>> ((2 : Int32).toUInt32 &&& Int32.toUInt32 31)).toInt32) &&& 858993459)).toUInt32 >>> ((4 : Int32).toUInt32 &&& Int32.toUInt32 31)).toInt32)) &&& 252645135) + (((((((p0 - (((p0.toUInt32 >>> ((1 : Int32).toUInt32 &&& Int32.toUInt32 31)).toInt32) &&& 1431655765)) &&& 858993459) + ((((p0 - (((p0.toUInt32 >>> ((1 : Int32).toUInt32 &&& Int32.toUInt32 31)).toInt32) &&& 1431655765)).toUInt32 >>> ((2 : Int32).toUInt32 &&& Int32.toUInt32 31)).toInt32) &&& 858993459)) + (((((p0 - (((p0.toUInt32 >>> ((1 : Int32).toUInt32 &&& Int32.toUInt32 31)).toInt32) &&& 1431655765)) &&& 858993459) + ((((p0 - (((p0.toUInt32 >>> ((1 : Int32).toUInt32 &&& Int32.toUInt32 31)).toInt32) &&& 1431655765)).toUInt32 >>> ((2 : Int32).toUInt32 &&& Int32.toUInt32 31)).toInt32) &&& 858993459)).toUInt32 >>> ((4 : Int32).toUInt32 &&& Int32.toUInt32 31)).toInt32)) &&& 252645135).toUInt32 >>> ((8 : Int32).toUInt32 &&& Int32.toUInt32 31)).toInt32)))]) hx hb dJ6_bitCount_0f7a4_40 rfl hl (by decide) rfl (fun ls hl => ?_)
  refine lv_iload_n (pc := 41) hx hb dJ6_bitCount_0f7a4_41 rfl (lv_at hl 0 rfl) ?_
  refine lv_iload_n (pc := 42) hx hb dJ6_bitCount_0f7a4_42 rfl (lv_at hl 0 rfl) ?_
  refine lv_bipush (pc := 43) (v := 16) hx hb dJ6_bitCount_0f7a4_43 (by decide) ?_
  refine lv_iushr (pc := 45) (v := (((((((p0 - (((p0.toUInt32 >>> ((1 : Int32).toUInt32 &&& Int32.toUInt32 31)).toInt32) &&& 1431655765)) &&& 858993459) + ((((p0 - (((p0.toUInt32 >>> ((1 : Int32).toUInt32 &&& Int32.toUInt32 31)).toInt32) &&& 1431655765)).toUInt32 >>> ((2 : Int32).toUInt32 &&& Int32.toUInt32 31)).toInt32) &&& 858993459)) + (((((p0 - (((p0.toUInt32 >>> ((1 : Int32).toUInt32 &&& Int32.toUInt32 31)).toInt32) &&& 1431655765)) &&& 858993459) + ((((p0 - (((p0.toUInt32 >>> ((1 : Int32).toUInt32 &&& Int32.toUInt32 31)).toInt32) &&& 1431655765)).toUInt32 >>> ((2 : Int32).toUInt32 &&& Int32.toUInt32 31)).toInt32) &&& 858993459)).toUInt32 >>> ((4 : Int32).toUInt32 &&& Int32.toUInt32 31)).toInt32)) &&& 252645135) + (((((((p0 - (((p0.toUInt32 >>> ((1 : Int32).toUInt32 &&& Int32.toUInt32 31)).toInt32) &&& 1431655765)) &&& 858993459) + ((((p0 - (((p0.toUInt32 >>> ((1 : Int32).toUInt32 &&& Int32.toUInt32 31)).toInt32) &&& 1431655765)).toUInt32 >>> ((2 : Int32).toUInt32 &&& Int32.toUInt32 31)).toInt32) &&& 858993459)) + (((((p0 - (((p0.toUInt32 >>> ((1 : Int32).toUInt32 &&& Int32.toUInt32 31)).toInt32) &&& 1431655765)) &&& 858993459) + ((((p0 - (((p0.toUInt32 >>> ((1 : Int32).toUInt32 &&& Int32.toUInt32 31)).toInt32) &&& 1431655765)).toUInt32 >>> ((2 : Int32).toUInt32 &&& Int32.toUInt32 31)).toInt32) &&& 858993459)).toUInt32 >>> ((4 : Int32).toUInt32 &&& Int32.toUInt32 31)).toInt32)) &&& 252645135).toUInt32 >>> ((8 : Int32).toUInt32 &&& Int32.toUInt32 31)).toInt32)).toUInt32 >>> ((16 : Int32).toUInt32 &&& Int32.toUInt32 31)).toInt32) hx hb dJ6_bitCount_0f7a4_45 rfl ?_
  refine lv_iadd (pc := 46) hx hb dJ6_bitCount_0f7a4_46 ?_
  refine lv_istore_n (pc := 47) (lv' := [(0, .int (((((((p0 - (((p0.toUInt32 >>> ((1 : Int32).toUInt32 &&& Int32.toUInt32 31)).toInt32) &&& 1431655765)) &&& 858993459) + ((((p0 - (((p0.toUInt32 >>> ((1 : Int32).toUInt32 &&& Int32.toUInt32 31)).toInt32) &&& 1431655765)).toUInt32 >>> ((2 : Int32).toUInt32 &&& Int32.toUInt32 31)).toInt32) &&& 858993459)) + (((((p0 - (((p0.toUInt32 >>> ((1 : Int32).toUInt32 &&& Int32.toUInt32 31)).toInt32) &&& 1431655765)) &&& 858993459) + ((((p0 - (((p0.toUInt32 >>> ((1 : Int32).toUInt32 &&& Int32.toUInt32 31)).toInt32) &&& 1431655765)).toUInt32 >>> ((2 : Int32).toUInt32 &&& Int32.toUInt32 31)).toInt32) &&& 858993459)).toUInt32 >>> ((4 : Int32).toUInt32 &&& Int32.toUInt32 31)).toInt32)) &&& 252645135) + (((((((p0 - (((p0.toUInt32 >>> ((1 : Int32).toUInt32 &&& Int32.toUInt32 31)).toInt32) &&& 1431655765)) &&& 858993459) + ((((p0 - (((p0.toUInt32 >>> ((1 : Int32).toUInt32 &&& Int32.toUInt32 31)).toInt32) &&& 1431655765)).toUInt32 >>> ((2 : Int32).toUInt32 &&& Int32.toUInt32 31)).toInt32) &&& 858993459)) + (((((p0 - (((p0.toUInt32 >>> ((1 : Int32).toUInt32 &&& Int32.toUInt32 31)).toInt32) &&& 1431655765)) &&& 858993459) + ((((p0 - (((p0.toUInt32 >>> ((1 : Int32).toUInt32 &&& Int32.toUInt32 31)).toInt32) &&& 1431655765)).toUInt32 >>> ((2 : Int32).toUInt32 &&& Int32.toUInt32 31)).toInt32) &&& 858993459)).toUInt32 >>> ((4 : Int32).toUInt32 &&& Int32.toUInt32 31)).toInt32)) &&& 252645135).toUInt32 >>> ((8 : Int32).toUInt32 &&& Int32.toUInt32 31)).toInt32)) + ((((((((p0 - (((p0.toUInt32 >>> ((1 : Int32).toUInt32 &&& Int32.toUInt32 31)).toInt32) &&& 1431655765)) &&& 858993459) + ((((p0 - (((p0.toUInt32 >>> ((1 : Int32).toUInt32 &&& Int32.toUInt32 31)).toInt32) &&& 1431655765)).toUInt32 >>> ((2 : Int32).toUInt32 &&& Int32.toUInt32 31)).toInt32) &&& 858993459)) + (((((p0 - (((p0.toUInt32 >>> ((1 : Int32).toUInt32 &&& Int32.toUInt32 31)).toInt32) &&& 1431655765)) &&& 858993459) + ((((p0 - (((p0.toUInt32 >>> ((1 : Int32).toUInt32 &&& Int32.toUInt32 31)).toInt32) &&& 1431655765)).toUInt32 >>> ((2 : Int32).toUInt32 &&& Int32.toUInt32 31)).toInt32) &&& 858993459)).toUInt32 >>> ((4 : Int32).toUInt32 &&& Int32.toUInt32 31)).toInt32)) &&& 252645135) + (((((((p0 - (((p0.toUInt32 >>> ((1 : Int32).toUInt32 &&& Int32.toUInt32 31)).toInt32) &&& 1431655765)) &&& 858993459) + ((((p0 - (((p0.toUInt32 >>> ((1 : Int32).toUInt32 &&& Int32.toUInt32 31)).toInt32) &&& 1431655765)).toUInt32 >>> ((2 : Int32).toUInt32 &&& Int32.toUInt32 31)).toInt32) &&& 858993459)) + (((((p0 - (((p0.toUInt32 >>> ((1 : Int32).toUInt32 &&& Int32.toUInt32 31)).toInt32) &&& 1431655765)) &&& 858993459) + ((((p0 - (((p0.toUInt32 >>> ((1 : Int32).toUInt32 &&& Int32.toUInt32 31)).toInt32) &&& 1431655765)).toUInt32 >>> ((2 : Int32).toUInt32 &&& Int32.toUInt32 31)).toInt32) &&& 858993459)).toUInt32 >>> ((4 : Int32).toUInt32 &&& Int32.toUInt32 31)).toInt32)) &&& 252645135).toUInt32 >>> ((8 : Int32).toUInt32 &&& Int32.toUInt32 31)).toInt32)).toUInt32 >>> ((16 : Int32).toUInt32 &&& Int32.toUInt32 31)).toInt32)))]) hx hb dJ6_bitCount_0f7a4_47 rfl hl (by decide) rfl (fun ls hl => ?_)
  refine lv_iload_n (pc := 48) hx hb dJ6_bitCount_0f7a4_48 rfl (lv_at hl 0 rfl) ?_
  refine lv_bipush (pc := 49) (v := 63) hx hb dJ6_bitCount_0f7a4_49 (by decide) ?_
  refine lv_iand (pc := 51) hx hb dJ6_bitCount_0f7a4_51 ?_
  cases hf
  rw [hQ]
  exact r_iret C hr hP hD hS rfl dJ6_bitCount_0f7a4_52
def wX1_reachedFrom (E : EN) (h h_creak h_cold h_one h_other h_how h_falls h_ways : Nat) (v_rooms : Int32) (v_doors : Int32) (v_one : Nat → Int32) (v_other : Nat → Int32) : va_W := [(h, .inr (1, [.int v_rooms, .ref h_creak, .ref h_cold, .int v_doors, .ref h_one, .ref h_other, .ref h_how, .ref h_falls, .ref h_ways])), (h_one, aI E 10 v_one), (h_other, aI E 10 v_other)]
def BX1_reachedFrom_17 (v_doors : Int32) (N : Nat) (p1 : Int32) (v_one : Nat → Int32) (v_other : Nat → Int32) (K75 : (Int32) → Option Int32) (rec17 : (Int32 × Int32) → Option Int32) : (Int32 × Int32) → Option Int32 := un2 fun (x17_3 : Int32) (x17_5 : Int32) => if v_doors ≤ x17_5 then (K75 x17_3) else (gd x17_5 10 (gd x17_5 10 ((fX10_isBitSet N p1.toInt64 x17_5).bind (un1 fun (r_51 : Int32) => jn (un1 fun (x69_3 : Int32) => rec17 (x69_3, x17_5 + 1)) (fun j69 => if r_51 = 0 then (if (x17_3 &&& ((1 <<< ((v_one x17_5.toNatClampNeg) &&& 31)) ||| (1 <<< ((v_other x17_5.toNatClampNeg) &&& 31)))) = 0 then (j69 x17_3) else (j69 (x17_3 ||| ((1 <<< ((v_one x17_5.toNatClampNeg) &&& 31)) ||| (1 <<< ((v_other x17_5.toNatClampNeg) &&& 31)))))) else (j69 x17_3))))))
def BX1_reachedFrom_5 (v_rooms : Int32) (v_doors : Int32) (N : Nat) (p1 : Int32) (v_one : Nat → Int32) (v_other : Nat → Int32) (rec5 : (Int32 × Int32) → Option Int32) : (Int32 × Int32) → Option Int32 := un2 fun (x5_3 : Int32) (x5_4 : Int32) => if v_rooms ≤ x5_4 then (some x5_3) else (lp (BX1_reachedFrom_17 v_doors N p1 v_one v_other (un1 fun (x75_3 : Int32) => rec5 (x75_3, x5_4 + 1))) N (x5_3, 0))
def fX1_reachedFrom (N : Nat) (p0 : Int32) (p1 : Int32) (v_rooms : Int32) (v_doors : Int32) (v_one : Nat → Int32) (v_other : Nat → Int32) : Option Int32 := lp (BX1_reachedFrom_5 v_rooms v_doors N p1 v_one v_other) N (p0, 0)
set_option maxHeartbeats 4000000 in
set_option maxRecDepth 100000 in
theorem ctX1_reachedFrom (l : Launch) (E : EN) (h h_creak h_cold h_one h_other h_how h_falls h_ways : Nat) (v_rooms : Int32) (v_doors : Int32) (v_one : Nat → Int32) (v_other : Nat → Int32) (N : Nat) (p0 : Int32) (p1 : Int32) (z : Int32) (hf : fX1_reachedFrom N p0 p1 v_rooms v_doors v_one v_other = some z) : CTi l E yX1_reachedFrom cX1_reachedFrom 7 .int 1 22 [.ref h, .int p0, .int p1] (wX1_reachedFrom E h h_creak h_cold h_one h_other h_how h_falls h_ways v_rooms v_doors v_one v_other) (z) (wX1_reachedFrom E h h_creak h_cold h_one h_other h_how h_falls h_ways v_rooms v_doors v_one v_other) := by
  intro sz
  refine ct_body (by decide) (Nat.le_of_ble_eq_true rfl) ?_
  intro p e s m args below meth c A ls hAe C hr hin hP hD hS hl
  have C : CX p s m args meth c cX1_reachedFrom RX1 7 E A := C
  have hl : lv_has ls 7 [(0, .ref h), (1, .int p0), (2, .int p1)] := hl
  have hx := C.1
  have hb := C.2.1
  rw [hAe]
  clear hAe
  obtain ⟨Q, hQ⟩ : ∃ Q, Q = MQ below (Qi E A (z) (wX1_reachedFrom E h h_creak h_cold h_one h_other h_how h_falls h_ways v_rooms v_doors v_one v_other)) args s 0 0 A := ⟨_, rfl⟩
  rw [← hQ]
  unfold fX1_reachedFrom at hf
  refine lv_iload_n (pc := 0) hx hb dX1_reachedFrom_0 rfl (lv_at hl 1 rfl) ?_
  refine lv_istore_n (pc := 1) (lv' := [(3, .int p0), (0, .ref h), (1, .int p0), (2, .int p1)]) hx hb dX1_reachedFrom_1 rfl hl (by decide) rfl (fun ls hl => ?_)
  refine lv_iconst (pc := 2) (v := 0) hx hb dX1_reachedFrom_2 (by decide) ?_
  refine lv_istore (pc := 3) (lv' := [(4, .int 0), (3, .int p0), (0, .ref h), (1, .int p0), (2, .int p1)]) hx hb dX1_reachedFrom_3 hl (by decide) rfl (fun ls hl => ?_)
  have key5 : ∀ (n : Nat) (x5_3 : Int32) (x5_4 : Int32) , lp (BX1_reachedFrom_5 v_rooms v_doors N p1 v_one v_other) n (x5_3, x5_4) = some z → AT p l e (rmOf 1 22) s m args below meth c E A Q 0 0 7 [(0, .ref h), (2, .int p1), (3, .int x5_3), (4, .int x5_4)] (wX1_reachedFrom E h h_creak h_cold h_one h_other h_how h_falls h_ways v_rooms v_doors v_one v_other) 5 [] := by
    intro n
    induction n with
    | zero => intro x5_3 x5_4 hf; exact (lp_0 hf).elim
    | succ n ih5 =>
      intro x5_3 x5_4 hf H locs ls hl hP hD hS
      replace hf := lp_s hf
      generalize lp (BX1_reachedFrom_5 v_rooms v_doors N p1 v_one v_other) n = rec5 at ih5 hf
      unfold BX1_reachedFrom_5 at hf
      replace hf := un2_s hf
      refine lv_iload (pc := 5) hx hb dX1_reachedFrom_5 (lv_at hl 3 rfl) ?_
      refine lv_aload_n (pc := 7) hx hb dX1_reachedFrom_7 rfl (lv_at hl 0 rfl) ?_
      refine r_get (pc := 8) C hP 0 rfl fl_X1_38 rfl dX1_reachedFrom_8 ?_
      refine lv_icmp_ge (pc := 11) (tgt := 81) hx hb dX1_reachedFrom_11 (by decide) (fun c_11 => ?_) (fun c_11 => ?_)
      · replace hf := it_t c_11 hf
        refine lv_iload_n (pc := 81) hx hb dX1_reachedFrom_81 rfl (lv_at hl 2 rfl) ?_
        cases hf
        rw [hQ]
        exact r_iret C hr hP hD hS rfl dX1_reachedFrom_82
      · replace hf := it_f c_11 hf
        refine lv_iconst (pc := 14) (v := 0) hx hb dX1_reachedFrom_14 (by decide) ?_
        refine lv_istore (pc := 15) (lv' := [(5, .int 0), (0, .ref h), (2, .int p1), (3, .int x5_3), (4, .int x5_4)]) hx hb dX1_reachedFrom_15 hl (by decide) rfl (fun ls hl => ?_)
        refine lpK hf (fun K75 eK75 hf => ?_)
        have hK75 : ∀ (x75_3 : Int32) , K75 x75_3 = some z → AT p l e (rmOf 1 22) s m args below meth c E A Q 0 0 7 [(0, .ref h), (2, .int p1), (3, .int x75_3), (4, .int x5_4)] (wX1_reachedFrom E h h_creak h_cold h_one h_other h_how h_falls h_ways v_rooms v_doors v_one v_other) 75 [] := by
          intro x75_3 hf H locs ls hl hP hD hS
          rw [eK75] at hf
          replace hf := un1_s hf
          refine lv_iinc (pc := 75) (v := x5_4 + 1) (lv' := [(4, .int (x5_4 + 1)), (0, .ref h), (2, .int p1), (3, .int x75_3)]) hx hb dX1_reachedFrom_75 hl (k := 3) rfl rfl (by decide) rfl (fun ls hl => ?_)
          refine lv_goto (pc := 78) (tgt := 5) hx hb dX1_reachedFrom_78 (by decide) ?_
          exact ih5 x75_3 (x5_4 + 1) hf _ _ _ (lv_sub hl [1, 2, 3, 0] rfl) hP hD hS
        clear eK75
        have key17 : ∀ (n : Nat) (x17_3 : Int32) (x17_5 : Int32) , lp (BX1_reachedFrom_17 v_doors N p1 v_one v_other K75) n (x17_3, x17_5) = some z → AT p l e (rmOf 1 22) s m args below meth c E A Q 0 0 7 [(0, .ref h), (2, .int p1), (3, .int x17_3), (4, .int x5_4), (5, .int x17_5)] (wX1_reachedFrom E h h_creak h_cold h_one h_other h_how h_falls h_ways v_rooms v_doors v_one v_other) 17 [] := by
          intro n
          induction n with
          | zero => intro x17_3 x17_5 hf; exact (lp_0 hf).elim
          | succ n ih17 =>
            intro x17_3 x17_5 hf H locs ls hl hP hD hS
            replace hf := lp_s hf
            generalize lp (BX1_reachedFrom_17 v_doors N p1 v_one v_other K75) n = rec17 at ih17 hf
            unfold BX1_reachedFrom_17 at hf
            replace hf := un2_s hf
            refine lv_iload (pc := 17) hx hb dX1_reachedFrom_17 (lv_at hl 4 rfl) ?_
            refine lv_aload_n (pc := 19) hx hb dX1_reachedFrom_19 rfl (lv_at hl 0 rfl) ?_
            refine r_get (pc := 20) C hP 0 rfl fl_X1_42 rfl dX1_reachedFrom_20 ?_
            refine lv_icmp_ge (pc := 23) (tgt := 75) hx hb dX1_reachedFrom_23 (by decide) (fun c_23 => ?_) (fun c_23 => ?_)
            · replace hf := it_t c_23 hf
              exact hK75 x17_3 hf _ _ _ (lv_sub hl [0, 1, 2, 3] rfl) hP hD hS
            · replace hf := it_f c_23 hf
              refine lv_iconst (pc := 26) (v := 1) hx hb dX1_reachedFrom_26 (by decide) ?_
              refine lv_aload_n (pc := 27) hx hb dX1_reachedFrom_27 rfl (lv_at hl 0 rfl) ?_
              refine r_get (pc := 28) C hP 0 rfl fl_X1_19 rfl dX1_reachedFrom_28 ?_
              refine lv_iload (pc := 31) hx hb dX1_reachedFrom_31 (lv_at hl 4 rfl) ?_
              obtain ⟨hi_33, hf⟩ := gd_s hf
              refine r_iald (pc := 33) C hP 1 rfl hi_33 dX1_reachedFrom_33 ?_
              refine lv_ishl (pc := 34) hx hb dX1_reachedFrom_34 ?_
              refine lv_iconst (pc := 35) (v := 1) hx hb dX1_reachedFrom_35 (by decide) ?_
              refine lv_aload_n (pc := 36) hx hb dX1_reachedFrom_36 rfl (lv_at hl 0 rfl) ?_
              refine r_get (pc := 37) C hP 0 rfl fl_X1_22 rfl dX1_reachedFrom_37 ?_
              refine lv_iload (pc := 40) hx hb dX1_reachedFrom_40 (lv_at hl 4 rfl) ?_
              obtain ⟨hi_42, hf⟩ := gd_s hf
              refine r_iald (pc := 42) C hP 2 rfl hi_42 dX1_reachedFrom_42 ?_
              refine lv_ishl (pc := 43) hx hb dX1_reachedFrom_43 ?_
              refine lv_ior (pc := 44) hx hb dX1_reachedFrom_44 ?_
              refine lv_istore (pc := 45) (lv' := [(6, .int ((1 <<< ((v_one x17_5.toNatClampNeg) &&& 31)) ||| (1 <<< ((v_other x17_5.toNatClampNeg) &&& 31)))), (0, .ref h), (2, .int p1), (3, .int x17_3), (4, .int x5_4), (5, .int x17_5)]) hx hb dX1_reachedFrom_45 hl (by decide) rfl (fun ls hl => ?_)
              refine lv_iload_n (pc := 47) hx hb dX1_reachedFrom_47 rfl (lv_at hl 2 rfl) ?_
              refine lv_i2l (pc := 48) (v := p1.toInt64) hx hb dX1_reachedFrom_48 rfl ?_
              refine lv_iload (pc := 49) hx hb dX1_reachedFrom_49 (lv_at hl 5 rfl) ?_
              obtain ⟨r_51, hc_51, hf⟩ := bd1 hf
              refine r_dalSi (pc := 51) (Cn := "") (h := 0) (ws' := (wX1_reachedFrom E h h_creak h_cold h_one h_other h_how h_falls h_ways v_rooms v_doors v_one v_other)) (As := [.long p1.toInt64, .int x17_5]) (rest := []) C (ctX10_isBitSet l E N p1.toInt64 x17_5 r_51 hc_51) ml_X1_45 ⟨Nat.le_of_ble_eq_true rfl, Nat.le_of_ble_eq_true rfl⟩ hP hD hS [] [0, 1, 2] 3 rfl rfl rfl rfl rfl rfl rfl hl.1 rfl (Nat.le_of_ble_eq_true rfl) ⟨Nat.zero_le _, Nat.zero_le _⟩ dX1_reachedFrom_51 ?_
              clear hP hD hS; intro H locs hP hD hS
              refine jnK hf (fun j69 ej69 hf => ?_)
              have hj69 : ∀ (x69_3 : Int32) , j69 x69_3 = some z → AT p l e (rmOf 1 22) s m args below meth c E A Q 0 0 7 [(0, .ref h), (2, .int p1), (3, .int x69_3), (4, .int x5_4), (5, .int x17_5)] (wX1_reachedFrom E h h_creak h_cold h_one h_other h_how h_falls h_ways v_rooms v_doors v_one v_other) 69 [] := by
                intro x69_3 hf H locs ls hl hP hD hS
                rw [ej69] at hf
                replace hf := un1_s hf
                refine lv_iinc (pc := 69) (v := x17_5 + 1) (lv' := [(5, .int (x17_5 + 1)), (0, .ref h), (2, .int p1), (3, .int x69_3), (4, .int x5_4)]) hx hb dX1_reachedFrom_69 hl (k := 4) rfl rfl (by decide) rfl (fun ls hl => ?_)
                refine lv_goto (pc := 72) (tgt := 17) hx hb dX1_reachedFrom_72 (by decide) ?_
                exact ih17 x69_3 (x17_5 + 1) hf _ _ _ (lv_sub hl [1, 2, 3, 4, 0] rfl) hP hD hS
              clear ej69
              refine lv_if_ne (pc := 54) (tgt := 69) hx hb dX1_reachedFrom_54 (by decide) (fun c_54 => ?_) (fun c_54 => ?_)
              · replace hf := it_f c_54 hf
                exact hj69 x17_3 hf _ _ _ (lv_sub hl [1, 2, 3, 4, 5] rfl) hP hD hS
              · replace hf := it_t c_54 hf
                refine lv_iload_n (pc := 57) hx hb dX1_reachedFrom_57 rfl (lv_at hl 3 rfl) ?_
                refine lv_iload (pc := 58) hx hb dX1_reachedFrom_58 (lv_at hl 0 rfl) ?_
                refine lv_iand (pc := 60) hx hb dX1_reachedFrom_60 ?_
                refine lv_if_eq (pc := 61) (tgt := 69) hx hb dX1_reachedFrom_61 (by decide) (fun c_61 => ?_) (fun c_61 => ?_)
                · replace hf := it_t c_61 hf
                  exact hj69 x17_3 hf _ _ _ (lv_sub hl [1, 2, 3, 4, 5] rfl) hP hD hS
                · replace hf := it_f c_61 hf
                  refine lv_iload_n (pc := 64) hx hb dX1_reachedFrom_64 rfl (lv_at hl 3 rfl) ?_
                  refine lv_iload (pc := 65) hx hb dX1_reachedFrom_65 (lv_at hl 0 rfl) ?_
                  refine lv_ior (pc := 67) hx hb dX1_reachedFrom_67 ?_
                  refine lv_istore_n (pc := 68) (lv' := [(3, .int (x17_3 ||| ((1 <<< ((v_one x17_5.toNatClampNeg) &&& 31)) ||| (1 <<< ((v_other x17_5.toNatClampNeg) &&& 31))))), (6, .int ((1 <<< ((v_one x17_5.toNatClampNeg) &&& 31)) ||| (1 <<< ((v_other x17_5.toNatClampNeg) &&& 31)))), (0, .ref h), (2, .int p1), (4, .int x5_4), (5, .int x17_5)]) hx hb dX1_reachedFrom_68 rfl hl (by decide) rfl (fun ls hl => ?_)
                  exact hj69 (x17_3 ||| ((1 <<< ((v_one x17_5.toNatClampNeg) &&& 31)) ||| (1 <<< ((v_other x17_5.toNatClampNeg) &&& 31)))) hf _ _ _ (lv_sub hl [2, 3, 0, 4, 5] rfl) hP hD hS
        exact key17 _ x5_3 0 hf _ _ _ (lv_sub hl [1, 2, 3, 4, 0] rfl) hP hD hS
  exact key5 _ p0 0 hf _ _ _ (lv_sub hl [2, 4, 1, 0] rfl) hP hD hS
def wX2_leastLocks (E : EN) (h h_house h_thingIn h_full h_states h_bed h_dreamOf h_listensIn h_house_creak h_house_cold h_house_one h_house_other h_house_how h_house_falls h_house_ways : Nat) (v_minutes : Int32) (v_things : Int32) (v_dreams : Int32) (v_sleepers : Int32) (v_listeners : Int32) (v_house_rooms : Int32) (v_house_doors : Int32) (v_house_how : Nat → Int32) (v_house_one : Nat → Int32) (v_house_other : Nat → Int32) (v_bed : Nat → Int32) : va_W := [(h, .inr (2, [.ref h_house, .int v_minutes, .int v_things, .ref h_thingIn, .ref h_full, .int v_dreams, .ref h_states, .int v_sleepers, .ref h_bed, .ref h_dreamOf, .int v_listeners, .ref h_listensIn])), (h_house, .inr (1, [.int v_house_rooms, .ref h_house_creak, .ref h_house_cold, .int v_house_doors, .ref h_house_one, .ref h_house_other, .ref h_house_how, .ref h_house_falls, .ref h_house_ways])), (h_house_how, aI E 10 v_house_how), (h_house_one, aI E 10 v_house_one), (h_house_other, aI E 10 v_house_other), (h_bed, aI E 3 v_bed)]
def BX2_leastLocks_63 (v_house_doors : Int32) (N : Nat) (x29_2 : Int32) (r_43 : Int32) (v_house_rooms : Int32) (v_house_one : Nat → Int32) (v_house_other : Nat → Int32) (p0 : Int32) (rec63 : (Int32 × Int32) → Option Int32) : (Int32 × Int32) → Option Int32 := un2 fun (x63_4 : Int32) (x63_5 : Int32) => if (1 <<< (v_house_doors &&& 31)) ≤ x63_5 then (some x63_4) else ((fJ6_bitCount_0f7a4 N x63_5).bind (un1 fun (r_79 : Int32) => (fJ6_bitCount_0f7a4 N x63_4).bind (un1 fun (r_84 : Int32) => jn (un1 fun (x114_4 : Int32) => rec63 (x114_4, x63_5 + 1)) (fun j114 => if r_84 ≤ r_79 then (j114 x63_4) else ((fX1_reachedFrom N x29_2 (r_43 ||| x63_5) v_house_rooms v_house_doors v_house_one v_house_other).bind (un1 fun (r_99 : Int32) => (fX10_isBitSet N r_99.toInt64 p0).bind (un1 fun (r_104 : Int32) => if r_104 = 0 then (j114 x63_5) else (j114 x63_4))))))))
def BX2_leastLocks_4 (v_sleepers : Int32) (v_bed : Nat → Int32) (K29 : (Int32) → Option Int32) (rec4 : (Int32 × Int32) → Option Int32) : (Int32 × Int32) → Option Int32 := un2 fun (x4_2 : Int32) (x4_3 : Int32) => if v_sleepers ≤ x4_3 then (K29 x4_2) else (gd x4_3 3 (rec4 (x4_2 ||| (1 <<< ((v_bed x4_3.toNatClampNeg) &&& 31)), x4_3 + 1)))
def fX2_leastLocks (N : Nat) (p0 : Int32) (v_sleepers : Int32) (v_house_rooms : Int32) (v_house_doors : Int32) (v_house_how : Nat → Int32) (v_house_one : Nat → Int32) (v_house_other : Nat → Int32) (v_bed : Nat → Int32) : Option Int32 := lp (BX2_leastLocks_4 v_sleepers v_bed (un1 fun (x29_2 : Int32) => (fX10_isBitSet N x29_2.toInt64 p0).bind (un1 fun (r_32 : Int32) => if r_32 = 0 then ((fX2_lockedAtNightfall N 0 v_house_doors v_house_how).bind (un1 fun (r_43 : Int32) => lp (BX2_leastLocks_63 v_house_doors N x29_2 r_43 v_house_rooms v_house_one v_house_other p0) N ((1 <<< (v_house_doors &&& 31)) - 1, 0))) else (some (-2))))) N (0, 0)
set_option maxHeartbeats 4000000 in
set_option maxRecDepth 100000 in
theorem ctX2_leastLocks (l : Launch) (E : EN) (h h_house h_thingIn h_full h_states h_bed h_dreamOf h_listensIn h_house_creak h_house_cold h_house_one h_house_other h_house_how h_house_falls h_house_ways : Nat) (v_minutes : Int32) (v_things : Int32) (v_dreams : Int32) (v_sleepers : Int32) (v_listeners : Int32) (v_house_rooms : Int32) (v_house_doors : Int32) (v_house_how : Nat → Int32) (v_house_one : Nat → Int32) (v_house_other : Nat → Int32) (v_bed : Nat → Int32) (N : Nat) (p0 : Int32) (z : Int32) (hf : fX2_leastLocks N p0 v_sleepers v_house_rooms v_house_doors v_house_how v_house_one v_house_other v_bed = some z) : CTi l E yX2_leastLocks cX2_leastLocks 6 .int 2 48 [.ref h, .int p0] (wX2_leastLocks E h h_house h_thingIn h_full h_states h_bed h_dreamOf h_listensIn h_house_creak h_house_cold h_house_one h_house_other h_house_how h_house_falls h_house_ways v_minutes v_things v_dreams v_sleepers v_listeners v_house_rooms v_house_doors v_house_how v_house_one v_house_other v_bed) (z) (wX2_leastLocks E h h_house h_thingIn h_full h_states h_bed h_dreamOf h_listensIn h_house_creak h_house_cold h_house_one h_house_other h_house_how h_house_falls h_house_ways v_minutes v_things v_dreams v_sleepers v_listeners v_house_rooms v_house_doors v_house_how v_house_one v_house_other v_bed) := by
  intro sz
  refine ct_body (by decide) (Nat.le_of_ble_eq_true rfl) ?_
  intro p e s m args below meth c A ls hAe C hr hin hP hD hS hl
  have C : CX p s m args meth c cX2_leastLocks RX2 6 E A := C
  have hl : lv_has ls 6 [(0, .ref h), (1, .int p0)] := hl
  have hx := C.1
  have hb := C.2.1
  rw [hAe]
  clear hAe
  obtain ⟨Q, hQ⟩ : ∃ Q, Q = MQ below (Qi E A (z) (wX2_leastLocks E h h_house h_thingIn h_full h_states h_bed h_dreamOf h_listensIn h_house_creak h_house_cold h_house_one h_house_other h_house_how h_house_falls h_house_ways v_minutes v_things v_dreams v_sleepers v_listeners v_house_rooms v_house_doors v_house_how v_house_one v_house_other v_bed)) args s 0 0 A := ⟨_, rfl⟩
  rw [← hQ]
  unfold fX2_leastLocks at hf
  refine lv_iconst (pc := 0) (v := 0) hx hb dX2_leastLocks_0 (by decide) ?_
  refine lv_istore_n (pc := 1) (lv' := [(2, .int 0), (0, .ref h), (1, .int p0)]) hx hb dX2_leastLocks_1 rfl hl (by decide) rfl (fun ls hl => ?_)
  refine lv_iconst (pc := 2) (v := 0) hx hb dX2_leastLocks_2 (by decide) ?_
  refine lv_istore_n (pc := 3) (lv' := [(3, .int 0), (2, .int 0), (0, .ref h), (1, .int p0)]) hx hb dX2_leastLocks_3 rfl hl (by decide) rfl (fun ls hl => ?_)
  refine lpK hf (fun K29 eK29 hf => ?_)
  have hK29 : ∀ (x29_2 : Int32) , K29 x29_2 = some z → AT p l e (rmOf 2 48) s m args below meth c E A Q 0 0 6 [(0, .ref h), (1, .int p0), (2, .int x29_2)] (wX2_leastLocks E h h_house h_thingIn h_full h_states h_bed h_dreamOf h_listensIn h_house_creak h_house_cold h_house_one h_house_other h_house_how h_house_falls h_house_ways v_minutes v_things v_dreams v_sleepers v_listeners v_house_rooms v_house_doors v_house_how v_house_one v_house_other v_bed) 29 [] := by
    intro x29_2 hf H locs ls hl hP hD hS
    rw [eK29] at hf
    replace hf := un1_s hf
    refine lv_iload_n (pc := 29) hx hb dX2_leastLocks_29 rfl (lv_at hl 2 rfl) ?_
    refine lv_i2l (pc := 30) (v := x29_2.toInt64) hx hb dX2_leastLocks_30 rfl ?_
    refine lv_iload_n (pc := 31) hx hb dX2_leastLocks_31 rfl (lv_at hl 1 rfl) ?_
    obtain ⟨r_32, hc_32, hf⟩ := bd1 hf
    refine r_dalSi (pc := 32) (Cn := "") (h := 0) (ws' := (wX2_leastLocks E h h_house h_thingIn h_full h_states h_bed h_dreamOf h_listensIn h_house_creak h_house_cold h_house_one h_house_other h_house_how h_house_falls h_house_ways v_minutes v_things v_dreams v_sleepers v_listeners v_house_rooms v_house_doors v_house_how v_house_one v_house_other v_bed)) (As := [.long x29_2.toInt64, .int p0]) (rest := []) C (ctX10_isBitSet l E N x29_2.toInt64 p0 r_32 hc_32) ml_X2_77 ⟨Nat.le_of_ble_eq_true rfl, Nat.le_of_ble_eq_true rfl⟩ hP hD hS [] [0, 1, 2, 3, 4, 5] 6 rfl rfl rfl rfl rfl rfl rfl hl.1 rfl (Nat.le_of_ble_eq_true rfl) ⟨Nat.zero_le _, Nat.zero_le _⟩ dX2_leastLocks_32 ?_
    clear hP hD hS; intro H locs hP hD hS
    refine lv_if_eq (pc := 35) (tgt := 41) hx hb dX2_leastLocks_35 (by decide) (fun c_35 => ?_) (fun c_35 => ?_)
    · replace hf := it_t c_35 hf
      refine lv_aload_n (pc := 41) hx hb dX2_leastLocks_41 rfl (lv_at hl 0 rfl) ?_
      refine lv_iconst (pc := 42) (v := 0) hx hb dX2_leastLocks_42 (by decide) ?_
      obtain ⟨r_43, hc_43, hf⟩ := bd1 hf
      refine r_dalVi (pc := 43) (ws' := (wX2_leastLocks E h h_house h_thingIn h_full h_states h_bed h_dreamOf h_listensIn h_house_creak h_house_cold h_house_one h_house_other h_house_how h_house_falls h_house_ways v_minutes v_things v_dreams v_sleepers v_listeners v_house_rooms v_house_doors v_house_how v_house_one v_house_other v_bed)) (As := [.int 0]) (rest := []) C (ctX2_lockedAtNightfall l E h h_house h_thingIn h_full h_states h_bed h_dreamOf h_listensIn h_house_creak h_house_cold h_house_one h_house_other h_house_how h_house_falls h_house_ways v_minutes v_things v_dreams v_sleepers v_listeners v_house_rooms v_house_doors v_house_how N 0 r_43 hc_43) ml_X2_81 ⟨Nat.le_of_ble_eq_true rfl, Nat.le_of_ble_eq_true rfl⟩ hP hD hS 0 rfl rfl rfl [0, 1, 2] [6, 7, 8, 3, 4, 5] 6 rfl rfl rfl rfl rfl rfl rfl hl.1 rfl (Nat.le_of_ble_eq_true rfl) ⟨Nat.zero_le _, Nat.zero_le _⟩ dX2_leastLocks_43 ?_
      clear hP hD hS; intro H locs hP hD hS
      refine lv_istore_n (pc := 46) (lv' := [(3, .int r_43), (0, .ref h), (1, .int p0), (2, .int x29_2)]) hx hb dX2_leastLocks_46 rfl hl (by decide) rfl (fun ls hl => ?_)
      refine lv_iconst (pc := 47) (v := 1) hx hb dX2_leastLocks_47 (by decide) ?_
      refine lv_aload_n (pc := 48) hx hb dX2_leastLocks_48 rfl (lv_at hl 1 rfl) ?_
      refine r_get (pc := 49) C hP 0 rfl fl_X2_12 rfl dX2_leastLocks_49 ?_
      refine r_get (pc := 52) C hP 1 rfl fl_X2_42 rfl dX2_leastLocks_52 ?_
      refine lv_ishl (pc := 55) hx hb dX2_leastLocks_55 ?_
      refine lv_iconst (pc := 56) (v := 1) hx hb dX2_leastLocks_56 (by decide) ?_
      refine lv_isub (pc := 57) hx hb dX2_leastLocks_57 ?_
      refine lv_istore (pc := 58) (lv' := [(4, .int ((1 <<< (v_house_doors &&& 31)) - 1)), (3, .int r_43), (0, .ref h), (1, .int p0), (2, .int x29_2)]) hx hb dX2_leastLocks_58 hl (by decide) rfl (fun ls hl => ?_)
      refine lv_iconst (pc := 60) (v := 0) hx hb dX2_leastLocks_60 (by decide) ?_
      refine lv_istore (pc := 61) (lv' := [(5, .int 0), (4, .int ((1 <<< (v_house_doors &&& 31)) - 1)), (3, .int r_43), (0, .ref h), (1, .int p0), (2, .int x29_2)]) hx hb dX2_leastLocks_61 hl (by decide) rfl (fun ls hl => ?_)
      have key63 : ∀ (n : Nat) (x63_4 : Int32) (x63_5 : Int32) , lp (BX2_leastLocks_63 v_house_doors N x29_2 r_43 v_house_rooms v_house_one v_house_other p0) n (x63_4, x63_5) = some z → AT p l e (rmOf 2 48) s m args below meth c E A Q 0 0 6 [(0, .ref h), (1, .int p0), (2, .int x29_2), (3, .int r_43), (4, .int x63_4), (5, .int x63_5)] (wX2_leastLocks E h h_house h_thingIn h_full h_states h_bed h_dreamOf h_listensIn h_house_creak h_house_cold h_house_one h_house_other h_house_how h_house_falls h_house_ways v_minutes v_things v_dreams v_sleepers v_listeners v_house_rooms v_house_doors v_house_how v_house_one v_house_other v_bed) 63 [] := by
        intro n
        induction n with
        | zero => intro x63_4 x63_5 hf; exact (lp_0 hf).elim
        | succ n ih63 =>
          intro x63_4 x63_5 hf H locs ls hl hP hD hS
          replace hf := lp_s hf
          generalize lp (BX2_leastLocks_63 v_house_doors N x29_2 r_43 v_house_rooms v_house_one v_house_other p0) n = rec63 at ih63 hf
          unfold BX2_leastLocks_63 at hf
          replace hf := un2_s hf
          refine lv_iload (pc := 63) hx hb dX2_leastLocks_63 (lv_at hl 5 rfl) ?_
          refine lv_iconst (pc := 65) (v := 1) hx hb dX2_leastLocks_65 (by decide) ?_
          refine lv_aload_n (pc := 66) hx hb dX2_leastLocks_66 rfl (lv_at hl 0 rfl) ?_
          refine r_get (pc := 67) C hP 0 rfl fl_X2_12 rfl dX2_leastLocks_67 ?_
          refine r_get (pc := 70) C hP 1 rfl fl_X2_42 rfl dX2_leastLocks_70 ?_
          refine lv_ishl (pc := 73) hx hb dX2_leastLocks_73 ?_
          refine lv_icmp_ge (pc := 74) (tgt := 120) hx hb dX2_leastLocks_74 (by decide) (fun c_74 => ?_) (fun c_74 => ?_)
          · replace hf := it_t c_74 hf
            refine lv_iload (pc := 120) hx hb dX2_leastLocks_120 (lv_at hl 4 rfl) ?_
            cases hf
            rw [hQ]
            exact r_iret C hr hP hD hS rfl dX2_leastLocks_122
          · replace hf := it_f c_74 hf
            refine lv_iload (pc := 77) hx hb dX2_leastLocks_77 (lv_at hl 5 rfl) ?_
            obtain ⟨r_79, hc_79, hf⟩ := bd1 hf
            refine r_dalSi (pc := 79) (Cn := "") (h := 0) (ws' := (wX2_leastLocks E h h_house h_thingIn h_full h_states h_bed h_dreamOf h_listensIn h_house_creak h_house_cold h_house_one h_house_other h_house_how h_house_falls h_house_ways v_minutes v_things v_dreams v_sleepers v_listeners v_house_rooms v_house_doors v_house_how v_house_one v_house_other v_bed)) (As := [.int x63_5]) (rest := []) C (ctJ6_bitCount_0f7a4 l E N x63_5 r_79 hc_79) ml_X2_85 ⟨Nat.le_of_ble_eq_true rfl, Nat.le_of_ble_eq_true rfl⟩ hP hD hS [] [0, 1, 2, 3, 4, 5] 6 rfl rfl rfl rfl rfl rfl rfl hl.1 rfl (Nat.le_of_ble_eq_true rfl) ⟨Nat.zero_le _, Nat.zero_le _⟩ dX2_leastLocks_79 ?_
            clear hP hD hS; intro H locs hP hD hS
            refine lv_iload (pc := 82) hx hb dX2_leastLocks_82 (lv_at hl 4 rfl) ?_
            obtain ⟨r_84, hc_84, hf⟩ := bd1 hf
            refine r_dalSi (pc := 84) (Cn := "") (h := 0) (ws' := (wX2_leastLocks E h h_house h_thingIn h_full h_states h_bed h_dreamOf h_listensIn h_house_creak h_house_cold h_house_one h_house_other h_house_how h_house_falls h_house_ways v_minutes v_things v_dreams v_sleepers v_listeners v_house_rooms v_house_doors v_house_how v_house_one v_house_other v_bed)) (As := [.int x63_4]) (rest := [.int r_79]) C (ctJ6_bitCount_0f7a4 l E N x63_4 r_84 hc_84) ml_X2_85 ⟨Nat.le_of_ble_eq_true rfl, Nat.le_of_ble_eq_true rfl⟩ hP hD hS [] [0, 1, 2, 3, 4, 5] 6 rfl rfl rfl rfl rfl rfl rfl hl.1 rfl (Nat.le_of_ble_eq_true rfl) ⟨Nat.zero_le _, Nat.zero_le _⟩ dX2_leastLocks_84 ?_
            clear hP hD hS; intro H locs hP hD hS
            refine jnK hf (fun j114 ej114 hf => ?_)
            have hj114 : ∀ (x114_4 : Int32) , j114 x114_4 = some z → AT p l e (rmOf 2 48) s m args below meth c E A Q 0 0 6 [(0, .ref h), (1, .int p0), (2, .int x29_2), (3, .int r_43), (4, .int x114_4), (5, .int x63_5)] (wX2_leastLocks E h h_house h_thingIn h_full h_states h_bed h_dreamOf h_listensIn h_house_creak h_house_cold h_house_one h_house_other h_house_how h_house_falls h_house_ways v_minutes v_things v_dreams v_sleepers v_listeners v_house_rooms v_house_doors v_house_how v_house_one v_house_other v_bed) 114 [] := by
              intro x114_4 hf H locs ls hl hP hD hS
              rw [ej114] at hf
              replace hf := un1_s hf
              refine lv_iinc (pc := 114) (v := x63_5 + 1) (lv' := [(5, .int (x63_5 + 1)), (0, .ref h), (1, .int p0), (2, .int x29_2), (3, .int r_43), (4, .int x114_4)]) hx hb dX2_leastLocks_114 hl (k := 5) rfl rfl (by decide) rfl (fun ls hl => ?_)
              refine lv_goto (pc := 117) (tgt := 63) hx hb dX2_leastLocks_117 (by decide) ?_
              exact ih63 x114_4 (x63_5 + 1) hf _ _ _ (lv_sub hl [1, 2, 3, 4, 5, 0] rfl) hP hD hS
            clear ej114
            refine lv_icmp_ge (pc := 87) (tgt := 114) hx hb dX2_leastLocks_87 (by decide) (fun c_87 => ?_) (fun c_87 => ?_)
            · replace hf := it_t c_87 hf
              exact hj114 x63_4 hf _ _ _ (lv_sub hl [0, 1, 2, 3, 4, 5] rfl) hP hD hS
            · replace hf := it_f c_87 hf
              refine lv_aload_n (pc := 90) hx hb dX2_leastLocks_90 rfl (lv_at hl 0 rfl) ?_
              refine r_get (pc := 91) C hP 0 rfl fl_X2_12 rfl dX2_leastLocks_91 ?_
              refine lv_iload_n (pc := 94) hx hb dX2_leastLocks_94 rfl (lv_at hl 2 rfl) ?_
              refine lv_iload_n (pc := 95) hx hb dX2_leastLocks_95 rfl (lv_at hl 3 rfl) ?_
              refine lv_iload (pc := 96) hx hb dX2_leastLocks_96 (lv_at hl 5 rfl) ?_
              refine lv_ior (pc := 98) hx hb dX2_leastLocks_98 ?_
              obtain ⟨r_99, hc_99, hf⟩ := bd1 hf
              refine r_dalVi (pc := 99) (ws' := (wX2_leastLocks E h h_house h_thingIn h_full h_states h_bed h_dreamOf h_listensIn h_house_creak h_house_cold h_house_one h_house_other h_house_how h_house_falls h_house_ways v_minutes v_things v_dreams v_sleepers v_listeners v_house_rooms v_house_doors v_house_how v_house_one v_house_other v_bed)) (As := [.int x29_2, .int (r_43 ||| x63_5)]) (rest := []) C (ctX1_reachedFrom l E h_house h_house_creak h_house_cold h_house_one h_house_other h_house_how h_house_falls h_house_ways v_house_rooms v_house_doors v_house_one v_house_other N x29_2 (r_43 ||| x63_5) r_99 hc_99) ml_X2_90 ⟨Nat.le_of_ble_eq_true rfl, Nat.le_of_ble_eq_true rfl⟩ hP hD hS 1 rfl rfl rfl [1, 3, 4] [0, 6, 2, 7, 8, 5] 6 rfl rfl rfl rfl rfl rfl rfl hl.1 rfl (Nat.le_of_ble_eq_true rfl) ⟨Nat.zero_le _, Nat.zero_le _⟩ dX2_leastLocks_99 ?_
              clear hP hD hS; intro H locs hP hD hS
              refine lv_i2l (pc := 102) (v := r_99.toInt64) hx hb dX2_leastLocks_102 rfl ?_
              refine lv_iload_n (pc := 103) hx hb dX2_leastLocks_103 rfl (lv_at hl 1 rfl) ?_
              obtain ⟨r_104, hc_104, hf⟩ := bd1 hf
              refine r_dalSi (pc := 104) (Cn := "") (h := 0) (ws' := (wX2_leastLocks E h h_house h_thingIn h_full h_states h_bed h_dreamOf h_listensIn h_house_creak h_house_cold h_house_one h_house_other h_house_how h_house_falls h_house_ways v_minutes v_things v_dreams v_sleepers v_listeners v_house_rooms v_house_doors v_house_how v_house_one v_house_other v_bed)) (As := [.long r_99.toInt64, .int p0]) (rest := []) C (ctX10_isBitSet l E N r_99.toInt64 p0 r_104 hc_104) ml_X2_77 ⟨Nat.le_of_ble_eq_true rfl, Nat.le_of_ble_eq_true rfl⟩ hP hD hS [] [0, 1, 2, 3, 4, 5] 6 rfl rfl rfl rfl rfl rfl rfl hl.1 rfl (Nat.le_of_ble_eq_true rfl) ⟨Nat.zero_le _, Nat.zero_le _⟩ dX2_leastLocks_104 ?_
              clear hP hD hS; intro H locs hP hD hS
              refine lv_if_ne (pc := 107) (tgt := 114) hx hb dX2_leastLocks_107 (by decide) (fun c_107 => ?_) (fun c_107 => ?_)
              · replace hf := it_f c_107 hf
                exact hj114 x63_4 hf _ _ _ (lv_sub hl [0, 1, 2, 3, 4, 5] rfl) hP hD hS
              · replace hf := it_t c_107 hf
                refine lv_iload (pc := 110) hx hb dX2_leastLocks_110 (lv_at hl 5 rfl) ?_
                refine lv_istore (pc := 112) (lv' := [(4, .int x63_5), (0, .ref h), (1, .int p0), (2, .int x29_2), (3, .int r_43), (5, .int x63_5)]) hx hb dX2_leastLocks_112 hl (by decide) rfl (fun ls hl => ?_)
                exact hj114 x63_5 hf _ _ _ (lv_sub hl [1, 2, 3, 4, 0, 5] rfl) hP hD hS
      exact key63 _ ((1 <<< (v_house_doors &&& 31)) - 1) 0 hf _ _ _ (lv_sub hl [3, 4, 5, 2, 1, 0] rfl) hP hD hS
    · replace hf := it_f c_35 hf
      refine lv_bipush (pc := 38) (v := (-2)) hx hb dX2_leastLocks_38 (by decide) ?_
      cases hf
      rw [hQ]
      exact r_iret C hr hP hD hS rfl dX2_leastLocks_40
  clear eK29
  have key4 : ∀ (n : Nat) (x4_2 : Int32) (x4_3 : Int32) , lp (BX2_leastLocks_4 v_sleepers v_bed K29) n (x4_2, x4_3) = some z → AT p l e (rmOf 2 48) s m args below meth c E A Q 0 0 6 [(0, .ref h), (1, .int p0), (2, .int x4_2), (3, .int x4_3)] (wX2_leastLocks E h h_house h_thingIn h_full h_states h_bed h_dreamOf h_listensIn h_house_creak h_house_cold h_house_one h_house_other h_house_how h_house_falls h_house_ways v_minutes v_things v_dreams v_sleepers v_listeners v_house_rooms v_house_doors v_house_how v_house_one v_house_other v_bed) 4 [] := by
    intro n
    induction n with
    | zero => intro x4_2 x4_3 hf; exact (lp_0 hf).elim
    | succ n ih4 =>
      intro x4_2 x4_3 hf H locs ls hl hP hD hS
      replace hf := lp_s hf
      generalize lp (BX2_leastLocks_4 v_sleepers v_bed K29) n = rec4 at ih4 hf
      unfold BX2_leastLocks_4 at hf
      replace hf := un2_s hf
      refine lv_iload_n (pc := 4) hx hb dX2_leastLocks_4 rfl (lv_at hl 3 rfl) ?_
      refine lv_aload_n (pc := 5) hx hb dX2_leastLocks_5 rfl (lv_at hl 0 rfl) ?_
      refine r_get (pc := 6) C hP 0 rfl fl_X2_60 rfl dX2_leastLocks_6 ?_
      refine lv_icmp_ge (pc := 9) (tgt := 29) hx hb dX2_leastLocks_9 (by decide) (fun c_9 => ?_) (fun c_9 => ?_)
      · replace hf := it_t c_9 hf
        exact hK29 x4_2 hf _ _ _ (lv_sub hl [0, 1, 2] rfl) hP hD hS
      · replace hf := it_f c_9 hf
        refine lv_iload_n (pc := 12) hx hb dX2_leastLocks_12 rfl (lv_at hl 2 rfl) ?_
        refine lv_iconst (pc := 13) (v := 1) hx hb dX2_leastLocks_13 (by decide) ?_
        refine lv_aload_n (pc := 14) hx hb dX2_leastLocks_14 rfl (lv_at hl 0 rfl) ?_
        refine r_get (pc := 15) C hP 0 rfl fl_X2_29 rfl dX2_leastLocks_15 ?_
        refine lv_iload_n (pc := 18) hx hb dX2_leastLocks_18 rfl (lv_at hl 3 rfl) ?_
        obtain ⟨hi_19, hf⟩ := gd_s hf
        refine r_iald (pc := 19) C hP 5 rfl hi_19 dX2_leastLocks_19 ?_
        refine lv_ishl (pc := 20) hx hb dX2_leastLocks_20 ?_
        refine lv_ior (pc := 21) hx hb dX2_leastLocks_21 ?_
        refine lv_istore_n (pc := 22) (lv' := [(2, .int (x4_2 ||| (1 <<< ((v_bed x4_3.toNatClampNeg) &&& 31)))), (0, .ref h), (1, .int p0), (3, .int x4_3)]) hx hb dX2_leastLocks_22 rfl hl (by decide) rfl (fun ls hl => ?_)
        refine lv_iinc (pc := 23) (v := x4_3 + 1) (lv' := [(3, .int (x4_3 + 1)), (2, .int (x4_2 ||| (1 <<< ((v_bed x4_3.toNatClampNeg) &&& 31)))), (0, .ref h), (1, .int p0)]) hx hb dX2_leastLocks_23 hl (k := 3) rfl rfl (by decide) rfl (fun ls hl => ?_)
        refine lv_goto (pc := 26) (tgt := 4) hx hb dX2_leastLocks_26 (by decide) ?_
        exact ih4 (x4_2 ||| (1 <<< ((v_bed x4_3.toNatClampNeg) &&& 31))) (x4_3 + 1) hf _ _ _ (lv_sub hl [2, 3, 1, 0] rfl) hP hD hS
  exact key4 _ 0 0 hf _ _ _ (lv_sub hl [2, 3, 1, 0] rfl) hP hD hS
def wX10_safely (E : EN) (h h_reader h_inn h_chosen h_night h_marks h_notes h_casts h_inn_house h_inn_thingIn h_inn_full h_inn_states h_inn_bed h_inn_dreamOf h_inn_listensIn h_inn_house_creak h_inn_house_cold h_inn_house_one h_inn_house_other h_inn_house_how h_inn_house_falls h_inn_house_ways : Nat) (v_marked : Int32) (v_refusal : Int32) (v_latestFault : Int32) (v_faultPlace : Int32) (v_inn_minutes : Int32) (v_inn_things : Int32) (v_inn_dreams : Int32) (v_inn_sleepers : Int32) (v_inn_listeners : Int32) (v_inn_house_rooms : Int32) (v_inn_house_doors : Int32) (v_inn_house_how : Nat → Int32) (v_inn_house_one : Nat → Int32) (v_inn_house_other : Nat → Int32) (v_inn_bed : Nat → Int32) : va_W := [(h, .inr (9, [.ref h_reader, .ref h_inn, .ref h_chosen, .ref h_night, .ref h_marks, .int v_marked, .ref h_notes, .ref h_casts, .int v_refusal, .int v_latestFault, .int v_faultPlace])), (h_inn, .inr (2, [.ref h_inn_house, .int v_inn_minutes, .int v_inn_things, .ref h_inn_thingIn, .ref h_inn_full, .int v_inn_dreams, .ref h_inn_states, .int v_inn_sleepers, .ref h_inn_bed, .ref h_inn_dreamOf, .int v_inn_listeners, .ref h_inn_listensIn])), (h_inn_house, .inr (1, [.int v_inn_house_rooms, .ref h_inn_house_creak, .ref h_inn_house_cold, .int v_inn_house_doors, .ref h_inn_house_one, .ref h_inn_house_other, .ref h_inn_house_how, .ref h_inn_house_falls, .ref h_inn_house_ways])), (h_inn_house_how, aI E 10 v_inn_house_how), (h_inn_house_one, aI E 10 v_inn_house_one), (h_inn_house_other, aI E 10 v_inn_house_other), (h_inn_bed, aI E 3 v_inn_bed)]
def fX10_safely (N : Nat) (p0 : Int32) (v_inn_sleepers : Int32) (v_inn_house_rooms : Int32) (v_inn_house_doors : Int32) (v_inn_house_how : Nat → Int32) (v_inn_house_one : Nat → Int32) (v_inn_house_other : Nat → Int32) (v_inn_bed : Nat → Int32) : Option (Int32 × Int32) := (fX10_isRoom N p0 v_inn_house_rooms).bind (un1 fun (r_2 : Int32) => if r_2 = 0 then ((fX10_refuse N 1).bind (un2 fun (r_10 : Int32) (v_refusal_10 : Int32) => some (r_10, v_refusal_10))) else ((fX2_leastLocks N p0 v_inn_sleepers v_inn_house_rooms v_inn_house_doors v_inn_house_how v_inn_house_one v_inn_house_other v_inn_bed).bind (un1 fun (r_20 : Int32) => (fX10_answer N r_20).bind (un2 fun (r_23 : Int32) (v_refusal_23 : Int32) => some (r_23, v_refusal_23)))))
set_option maxHeartbeats 4000000 in
set_option maxRecDepth 100000 in
theorem ctX10_safely (l : Launch) (E : EN) (h h_reader h_inn h_chosen h_night h_marks h_notes h_casts h_inn_house h_inn_thingIn h_inn_full h_inn_states h_inn_bed h_inn_dreamOf h_inn_listensIn h_inn_house_creak h_inn_house_cold h_inn_house_one h_inn_house_other h_inn_house_how h_inn_house_falls h_inn_house_ways : Nat) (v_marked : Int32) (v_refusal : Int32) (v_latestFault : Int32) (v_faultPlace : Int32) (v_inn_minutes : Int32) (v_inn_things : Int32) (v_inn_dreams : Int32) (v_inn_sleepers : Int32) (v_inn_listeners : Int32) (v_inn_house_rooms : Int32) (v_inn_house_doors : Int32) (v_inn_house_how : Nat → Int32) (v_inn_house_one : Nat → Int32) (v_inn_house_other : Nat → Int32) (v_inn_bed : Nat → Int32) (N : Nat) (p0 : Int32) (z : Int32 × Int32) (hf : fX10_safely N p0 v_inn_sleepers v_inn_house_rooms v_inn_house_doors v_inn_house_how v_inn_house_one v_inn_house_other v_inn_bed = some z) : CTi l E yX10_safely cX10_safely 2 .int 3 73 [.ref h, .int p0] (wX10_safely E h h_reader h_inn h_chosen h_night h_marks h_notes h_casts h_inn_house h_inn_thingIn h_inn_full h_inn_states h_inn_bed h_inn_dreamOf h_inn_listensIn h_inn_house_creak h_inn_house_cold h_inn_house_one h_inn_house_other h_inn_house_how h_inn_house_falls h_inn_house_ways v_marked v_refusal v_latestFault v_faultPlace v_inn_minutes v_inn_things v_inn_dreams v_inn_sleepers v_inn_listeners v_inn_house_rooms v_inn_house_doors v_inn_house_how v_inn_house_one v_inn_house_other v_inn_bed) (z.1) (wX10_safely E h h_reader h_inn h_chosen h_night h_marks h_notes h_casts h_inn_house h_inn_thingIn h_inn_full h_inn_states h_inn_bed h_inn_dreamOf h_inn_listensIn h_inn_house_creak h_inn_house_cold h_inn_house_one h_inn_house_other h_inn_house_how h_inn_house_falls h_inn_house_ways v_marked z.2 v_latestFault v_faultPlace v_inn_minutes v_inn_things v_inn_dreams v_inn_sleepers v_inn_listeners v_inn_house_rooms v_inn_house_doors v_inn_house_how v_inn_house_one v_inn_house_other v_inn_bed) := by
  intro sz
  refine ct_body (by decide) (Nat.le_of_ble_eq_true rfl) ?_
  intro p e s m args below meth c A ls hAe C hr hin hP hD hS hl
  have C : CX p s m args meth c cX10_safely RX10 2 E A := C
  have hl : lv_has ls 2 [(0, .ref h), (1, .int p0)] := hl
  have hx := C.1
  have hb := C.2.1
  rw [hAe]
  clear hAe
  obtain ⟨Q, hQ⟩ : ∃ Q, Q = MQ below (Qi E A (z.1) (wX10_safely E h h_reader h_inn h_chosen h_night h_marks h_notes h_casts h_inn_house h_inn_thingIn h_inn_full h_inn_states h_inn_bed h_inn_dreamOf h_inn_listensIn h_inn_house_creak h_inn_house_cold h_inn_house_one h_inn_house_other h_inn_house_how h_inn_house_falls h_inn_house_ways v_marked z.2 v_latestFault v_faultPlace v_inn_minutes v_inn_things v_inn_dreams v_inn_sleepers v_inn_listeners v_inn_house_rooms v_inn_house_doors v_inn_house_how v_inn_house_one v_inn_house_other v_inn_bed)) args s 0 0 A := ⟨_, rfl⟩
  rw [← hQ]
  unfold fX10_safely at hf
  refine lv_aload_n (pc := 0) hx hb dX10_safely_0 rfl (lv_at hl 0 rfl) ?_
  refine lv_iload_n (pc := 1) hx hb dX10_safely_1 rfl (lv_at hl 1 rfl) ?_
  obtain ⟨r_2, hc_2, hf⟩ := bd1 hf
  refine r_dalVi (pc := 2) (ws' := (wX10_safely E h h_reader h_inn h_chosen h_night h_marks h_notes h_casts h_inn_house h_inn_thingIn h_inn_full h_inn_states h_inn_bed h_inn_dreamOf h_inn_listensIn h_inn_house_creak h_inn_house_cold h_inn_house_one h_inn_house_other h_inn_house_how h_inn_house_falls h_inn_house_ways v_marked v_refusal v_latestFault v_faultPlace v_inn_minutes v_inn_things v_inn_dreams v_inn_sleepers v_inn_listeners v_inn_house_rooms v_inn_house_doors v_inn_house_how v_inn_house_one v_inn_house_other v_inn_bed)) (As := [.int p0]) (rest := []) C (ctX10_isRoom l E h h_reader h_inn h_chosen h_night h_marks h_notes h_casts h_inn_house h_inn_thingIn h_inn_full h_inn_states h_inn_bed h_inn_dreamOf h_inn_listensIn h_inn_house_creak h_inn_house_cold h_inn_house_one h_inn_house_other h_inn_house_how h_inn_house_falls h_inn_house_ways v_marked v_refusal v_latestFault v_faultPlace v_inn_minutes v_inn_things v_inn_dreams v_inn_sleepers v_inn_listeners v_inn_house_rooms v_inn_house_doors N p0 r_2 hc_2) ml_X10_101 ⟨Nat.le_of_ble_eq_true rfl, Nat.le_of_ble_eq_true rfl⟩ hP hD hS 0 rfl rfl rfl [0, 1, 2] [7, 8, 9, 3, 4, 5, 6] 7 rfl rfl rfl rfl rfl rfl rfl hl.1 rfl (Nat.le_of_ble_eq_true rfl) ⟨Nat.zero_le _, Nat.zero_le _⟩ dX10_safely_2 ?_
  clear hP hD hS; intro H locs hP hD hS
  refine lv_if_ne (pc := 5) (tgt := 14) hx hb dX10_safely_5 (by decide) (fun c_5 => ?_) (fun c_5 => ?_)
  · replace hf := it_f c_5 hf
    refine lv_aload_n (pc := 14) hx hb dX10_safely_14 rfl (lv_at hl 0 rfl) ?_
    refine lv_aload_n (pc := 15) hx hb dX10_safely_15 rfl (lv_at hl 0 rfl) ?_
    refine r_get (pc := 16) C hP 0 rfl fl_X10_19 rfl dX10_safely_16 ?_
    refine lv_iload_n (pc := 19) hx hb dX10_safely_19 rfl (lv_at hl 1 rfl) ?_
    obtain ⟨r_20, hc_20, hf⟩ := bd1 hf
    refine r_dalVi (pc := 20) (ws' := (wX10_safely E h h_reader h_inn h_chosen h_night h_marks h_notes h_casts h_inn_house h_inn_thingIn h_inn_full h_inn_states h_inn_bed h_inn_dreamOf h_inn_listensIn h_inn_house_creak h_inn_house_cold h_inn_house_one h_inn_house_other h_inn_house_how h_inn_house_falls h_inn_house_ways v_marked v_refusal v_latestFault v_faultPlace v_inn_minutes v_inn_things v_inn_dreams v_inn_sleepers v_inn_listeners v_inn_house_rooms v_inn_house_doors v_inn_house_how v_inn_house_one v_inn_house_other v_inn_bed)) (As := [.int p0]) (rest := [.ref h]) C (ctX2_leastLocks l E h_inn h_inn_house h_inn_thingIn h_inn_full h_inn_states h_inn_bed h_inn_dreamOf h_inn_listensIn h_inn_house_creak h_inn_house_cold h_inn_house_one h_inn_house_other h_inn_house_how h_inn_house_falls h_inn_house_ways v_inn_minutes v_inn_things v_inn_dreams v_inn_sleepers v_inn_listeners v_inn_house_rooms v_inn_house_doors v_inn_house_how v_inn_house_one v_inn_house_other v_inn_bed N p0 r_20 hc_20) ml_X10_295 ⟨Nat.le_of_ble_eq_true rfl, Nat.le_of_ble_eq_true rfl⟩ hP hD hS 1 rfl rfl rfl [1, 2, 3, 4, 5, 6] [0, 7, 8, 9, 10, 11, 12] 7 rfl rfl rfl rfl rfl rfl rfl hl.1 rfl (Nat.le_of_ble_eq_true rfl) ⟨Nat.zero_le _, Nat.zero_le _⟩ dX10_safely_20 ?_
    clear hP hD hS; intro H locs hP hD hS
    obtain ⟨r_23, v_refusal_23, hc_23, hf⟩ := bd2 hf
    refine r_dalVi (pc := 23) (ws' := (wX10_safely E h h_reader h_inn h_chosen h_night h_marks h_notes h_casts h_inn_house h_inn_thingIn h_inn_full h_inn_states h_inn_bed h_inn_dreamOf h_inn_listensIn h_inn_house_creak h_inn_house_cold h_inn_house_one h_inn_house_other h_inn_house_how h_inn_house_falls h_inn_house_ways v_marked v_refusal_23 v_latestFault v_faultPlace v_inn_minutes v_inn_things v_inn_dreams v_inn_sleepers v_inn_listeners v_inn_house_rooms v_inn_house_doors v_inn_house_how v_inn_house_one v_inn_house_other v_inn_bed)) (As := [.int r_20]) (rest := []) C (ctX10_answer l E h h_reader h_inn h_chosen h_night h_marks h_notes h_casts v_marked v_refusal v_latestFault v_faultPlace N r_20 (r_23, v_refusal_23) hc_23) ml_X10_95 ⟨Nat.le_of_ble_eq_true rfl, Nat.le_of_ble_eq_true rfl⟩ hP hD hS 0 rfl rfl rfl [0] [7, 1, 2, 3, 4, 5, 6] 7 rfl rfl rfl rfl rfl rfl rfl hl.1 rfl (Nat.le_of_ble_eq_true rfl) ⟨Nat.zero_le _, Nat.zero_le _⟩ dX10_safely_23 ?_
    clear hP hD hS; intro H locs hP hD hS
    cases hf
    rw [hQ]
    exact r_iret C hr hP hD hS rfl dX10_safely_26
  · replace hf := it_t c_5 hf
    refine lv_aload_n (pc := 8) hx hb dX10_safely_8 rfl (lv_at hl 0 rfl) ?_
    refine lv_iconst (pc := 9) (v := 1) hx hb dX10_safely_9 (by decide) ?_
    obtain ⟨r_10, v_refusal_10, hc_10, hf⟩ := bd2 hf
    refine r_dalVi (pc := 10) (ws' := (wX10_safely E h h_reader h_inn h_chosen h_night h_marks h_notes h_casts h_inn_house h_inn_thingIn h_inn_full h_inn_states h_inn_bed h_inn_dreamOf h_inn_listensIn h_inn_house_creak h_inn_house_cold h_inn_house_one h_inn_house_other h_inn_house_how h_inn_house_falls h_inn_house_ways v_marked v_refusal_10 v_latestFault v_faultPlace v_inn_minutes v_inn_things v_inn_dreams v_inn_sleepers v_inn_listeners v_inn_house_rooms v_inn_house_doors v_inn_house_how v_inn_house_one v_inn_house_other v_inn_bed)) (As := [.int 1]) (rest := []) C (ctX10_refuse l E h h_reader h_inn h_chosen h_night h_marks h_notes h_casts v_marked v_refusal v_latestFault v_faultPlace N 1 (r_10, v_refusal_10) hc_10) ml_X10_68 ⟨Nat.le_of_ble_eq_true rfl, Nat.le_of_ble_eq_true rfl⟩ hP hD hS 0 rfl rfl rfl [0] [7, 1, 2, 3, 4, 5, 6] 7 rfl rfl rfl rfl rfl rfl rfl hl.1 rfl (Nat.le_of_ble_eq_true rfl) ⟨Nat.zero_le _, Nat.zero_le _⟩ dX10_safely_10 ?_
    clear hP hD hS; intro H locs hP hD hS
    cases hf
    rw [hQ]
    exact r_iret C hr hP hD hS rfl dX10_safely_13
def wX10_safe (E : EN) (h h_reader h_inn h_chosen h_night h_marks h_notes h_casts h_inn_house h_inn_thingIn h_inn_full h_inn_states h_inn_bed h_inn_dreamOf h_inn_listensIn h_inn_house_creak h_inn_house_cold h_inn_house_one h_inn_house_other h_inn_house_how h_inn_house_falls h_inn_house_ways : Nat) (v_marked : Int32) (v_refusal : Int32) (v_latestFault : Int32) (v_faultPlace : Int32) (v_inn_minutes : Int32) (v_inn_things : Int32) (v_inn_dreams : Int32) (v_inn_sleepers : Int32) (v_inn_listeners : Int32) (v_inn_house_rooms : Int32) (v_inn_house_doors : Int32) (v_inn_house_how : Nat → Int32) (v_inn_house_one : Nat → Int32) (v_inn_house_other : Nat → Int32) (v_inn_bed : Nat → Int32) : va_W := [(h, .inr (9, [.ref h_reader, .ref h_inn, .ref h_chosen, .ref h_night, .ref h_marks, .int v_marked, .ref h_notes, .ref h_casts, .int v_refusal, .int v_latestFault, .int v_faultPlace])), (h_inn, .inr (2, [.ref h_inn_house, .int v_inn_minutes, .int v_inn_things, .ref h_inn_thingIn, .ref h_inn_full, .int v_inn_dreams, .ref h_inn_states, .int v_inn_sleepers, .ref h_inn_bed, .ref h_inn_dreamOf, .int v_inn_listeners, .ref h_inn_listensIn])), (h_inn_house, .inr (1, [.int v_inn_house_rooms, .ref h_inn_house_creak, .ref h_inn_house_cold, .int v_inn_house_doors, .ref h_inn_house_one, .ref h_inn_house_other, .ref h_inn_house_how, .ref h_inn_house_falls, .ref h_inn_house_ways])), (h_inn_house_how, aI E 10 v_inn_house_how), (h_inn_house_one, aI E 10 v_inn_house_one), (h_inn_house_other, aI E 10 v_inn_house_other), (h_inn_bed, aI E 3 v_inn_bed)]
def fX10_safe (N : Nat) (p0 : Int32) (v_inn_sleepers : Int32) (v_inn_house_rooms : Int32) (v_inn_house_doors : Int32) (v_inn_house_how : Nat → Int32) (v_inn_house_one : Nat → Int32) (v_inn_house_other : Nat → Int32) (v_inn_bed : Nat → Int32) : Option (Int32 × Int32) := (fX10_safely N p0 v_inn_sleepers v_inn_house_rooms v_inn_house_doors v_inn_house_how v_inn_house_one v_inn_house_other v_inn_bed).bind (un2 fun (r_2 : Int32) (v_refusal_2 : Int32) => if 0 ≤ r_2 then ((fJ6_bitCount_0f7a4 N r_2).bind (un1 fun (r_15 : Int32) => some (r_15, v_refusal_2))) else (some (r_2, v_refusal_2)))
set_option maxHeartbeats 4000000 in
set_option maxRecDepth 100000 in
theorem ctX10_safe (l : Launch) (E : EN) (h h_reader h_inn h_chosen h_night h_marks h_notes h_casts h_inn_house h_inn_thingIn h_inn_full h_inn_states h_inn_bed h_inn_dreamOf h_inn_listensIn h_inn_house_creak h_inn_house_cold h_inn_house_one h_inn_house_other h_inn_house_how h_inn_house_falls h_inn_house_ways : Nat) (v_marked : Int32) (v_refusal : Int32) (v_latestFault : Int32) (v_faultPlace : Int32) (v_inn_minutes : Int32) (v_inn_things : Int32) (v_inn_dreams : Int32) (v_inn_sleepers : Int32) (v_inn_listeners : Int32) (v_inn_house_rooms : Int32) (v_inn_house_doors : Int32) (v_inn_house_how : Nat → Int32) (v_inn_house_one : Nat → Int32) (v_inn_house_other : Nat → Int32) (v_inn_bed : Nat → Int32) (N : Nat) (p0 : Int32) (z : Int32 × Int32) (hf : fX10_safe N p0 v_inn_sleepers v_inn_house_rooms v_inn_house_doors v_inn_house_how v_inn_house_one v_inn_house_other v_inn_bed = some z) : CTi l E yX10_safe cX10_safe 3 .int 4 94 [.ref h, .int p0] (wX10_safe E h h_reader h_inn h_chosen h_night h_marks h_notes h_casts h_inn_house h_inn_thingIn h_inn_full h_inn_states h_inn_bed h_inn_dreamOf h_inn_listensIn h_inn_house_creak h_inn_house_cold h_inn_house_one h_inn_house_other h_inn_house_how h_inn_house_falls h_inn_house_ways v_marked v_refusal v_latestFault v_faultPlace v_inn_minutes v_inn_things v_inn_dreams v_inn_sleepers v_inn_listeners v_inn_house_rooms v_inn_house_doors v_inn_house_how v_inn_house_one v_inn_house_other v_inn_bed) (z.1) (wX10_safe E h h_reader h_inn h_chosen h_night h_marks h_notes h_casts h_inn_house h_inn_thingIn h_inn_full h_inn_states h_inn_bed h_inn_dreamOf h_inn_listensIn h_inn_house_creak h_inn_house_cold h_inn_house_one h_inn_house_other h_inn_house_how h_inn_house_falls h_inn_house_ways v_marked z.2 v_latestFault v_faultPlace v_inn_minutes v_inn_things v_inn_dreams v_inn_sleepers v_inn_listeners v_inn_house_rooms v_inn_house_doors v_inn_house_how v_inn_house_one v_inn_house_other v_inn_bed) := by
  intro sz
  refine ct_body (by decide) (Nat.le_of_ble_eq_true rfl) ?_
  intro p e s m args below meth c A ls hAe C hr hin hP hD hS hl
  have C : CX p s m args meth c cX10_safe RX10 3 E A := C
  have hl : lv_has ls 3 [(0, .ref h), (1, .int p0)] := hl
  have hx := C.1
  have hb := C.2.1
  rw [hAe]
  clear hAe
  obtain ⟨Q, hQ⟩ : ∃ Q, Q = MQ below (Qi E A (z.1) (wX10_safe E h h_reader h_inn h_chosen h_night h_marks h_notes h_casts h_inn_house h_inn_thingIn h_inn_full h_inn_states h_inn_bed h_inn_dreamOf h_inn_listensIn h_inn_house_creak h_inn_house_cold h_inn_house_one h_inn_house_other h_inn_house_how h_inn_house_falls h_inn_house_ways v_marked z.2 v_latestFault v_faultPlace v_inn_minutes v_inn_things v_inn_dreams v_inn_sleepers v_inn_listeners v_inn_house_rooms v_inn_house_doors v_inn_house_how v_inn_house_one v_inn_house_other v_inn_bed)) args s 0 0 A := ⟨_, rfl⟩
  rw [← hQ]
  unfold fX10_safe at hf
  refine lv_aload_n (pc := 0) hx hb dX10_safe_0 rfl (lv_at hl 0 rfl) ?_
  refine lv_iload_n (pc := 1) hx hb dX10_safe_1 rfl (lv_at hl 1 rfl) ?_
  obtain ⟨r_2, v_refusal_2, hc_2, hf⟩ := bd2 hf
  refine r_dalVi (pc := 2) (ws' := (wX10_safe E h h_reader h_inn h_chosen h_night h_marks h_notes h_casts h_inn_house h_inn_thingIn h_inn_full h_inn_states h_inn_bed h_inn_dreamOf h_inn_listensIn h_inn_house_creak h_inn_house_cold h_inn_house_one h_inn_house_other h_inn_house_how h_inn_house_falls h_inn_house_ways v_marked v_refusal_2 v_latestFault v_faultPlace v_inn_minutes v_inn_things v_inn_dreams v_inn_sleepers v_inn_listeners v_inn_house_rooms v_inn_house_doors v_inn_house_how v_inn_house_one v_inn_house_other v_inn_bed)) (As := [.int p0]) (rest := []) C (ctX10_safely l E h h_reader h_inn h_chosen h_night h_marks h_notes h_casts h_inn_house h_inn_thingIn h_inn_full h_inn_states h_inn_bed h_inn_dreamOf h_inn_listensIn h_inn_house_creak h_inn_house_cold h_inn_house_one h_inn_house_other h_inn_house_how h_inn_house_falls h_inn_house_ways v_marked v_refusal v_latestFault v_faultPlace v_inn_minutes v_inn_things v_inn_dreams v_inn_sleepers v_inn_listeners v_inn_house_rooms v_inn_house_doors v_inn_house_how v_inn_house_one v_inn_house_other v_inn_bed N p0 (r_2, v_refusal_2) hc_2) ml_X10_288 ⟨Nat.le_of_ble_eq_true rfl, Nat.le_of_ble_eq_true rfl⟩ hP hD hS 0 rfl rfl rfl [0, 1, 2, 3, 4, 5, 6] [7, 8, 9, 10, 11, 12, 13] 7 rfl rfl rfl rfl rfl rfl rfl hl.1 rfl (Nat.le_of_ble_eq_true rfl) ⟨Nat.zero_le _, Nat.zero_le _⟩ dX10_safe_2 ?_
  clear hP hD hS; intro H locs hP hD hS
  refine lv_istore_n (pc := 5) (lv' := [(2, .int r_2), (0, .ref h), (1, .int p0)]) hx hb dX10_safe_5 rfl hl (by decide) rfl (fun ls hl => ?_)
  refine lv_iload_n (pc := 6) hx hb dX10_safe_6 rfl (lv_at hl 0 rfl) ?_
  refine lv_if_ge (pc := 7) (tgt := 14) hx hb dX10_safe_7 (by decide) (fun c_7 => ?_) (fun c_7 => ?_)
  · replace hf := it_t c_7 hf
    refine lv_iload_n (pc := 14) hx hb dX10_safe_14 rfl (lv_at hl 0 rfl) ?_
    obtain ⟨r_15, hc_15, hf⟩ := bd1 hf
    refine r_dalSi (pc := 15) (Cn := "") (h := 0) (ws' := (wX10_safe E h h_reader h_inn h_chosen h_night h_marks h_notes h_casts h_inn_house h_inn_thingIn h_inn_full h_inn_states h_inn_bed h_inn_dreamOf h_inn_listensIn h_inn_house_creak h_inn_house_cold h_inn_house_one h_inn_house_other h_inn_house_how h_inn_house_falls h_inn_house_ways v_marked v_refusal_2 v_latestFault v_faultPlace v_inn_minutes v_inn_things v_inn_dreams v_inn_sleepers v_inn_listeners v_inn_house_rooms v_inn_house_doors v_inn_house_how v_inn_house_one v_inn_house_other v_inn_bed)) (As := [.int r_2]) (rest := []) C (ctJ6_bitCount_0f7a4 l E N r_2 r_15 hc_15) ml_X10_291 ⟨Nat.le_of_ble_eq_true rfl, Nat.le_of_ble_eq_true rfl⟩ hP hD hS [] [0, 1, 2, 3, 4, 5, 6] 7 rfl rfl rfl rfl rfl rfl rfl hl.1 rfl (Nat.le_of_ble_eq_true rfl) ⟨Nat.zero_le _, Nat.zero_le _⟩ dX10_safe_15 ?_
    clear hP hD hS; intro H locs hP hD hS
    cases hf
    rw [hQ]
    exact r_iret C hr hP hD hS rfl dX10_safe_18
  · replace hf := it_f c_7 hf
    refine lv_iload_n (pc := 10) hx hb dX10_safe_10 rfl (lv_at hl 0 rfl) ?_
    refine lv_goto (pc := 11) (tgt := 18) hx hb dX10_safe_11 (by decide) ?_
    cases hf
    rw [hQ]
    exact r_iret C hr hP hD hS rfl dX10_safe_18
