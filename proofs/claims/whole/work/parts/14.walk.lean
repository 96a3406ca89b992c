theorem dX12_back_0 : decode cX12_back 0 = .ok (.aload_n 0, 1) := by decide +kernel
theorem dX12_back_1 : decode cX12_back 1 = .ok (.iconst 0, 1) := by decide +kernel
theorem dX12_back_2 : decode cX12_back 2 = .ok (.putfield 71, 3) := by decide +kernel
theorem dX12_back_5 : decode cX12_back 5 = .ok (.aload_n 0, 1) := by decide +kernel
theorem dX12_back_6 : decode cX12_back 6 = .ok (.getfield 358, 3) := by decide +kernel
theorem dX12_back_9 : decode cX12_back 9 = .ok (.ifnull 15, 3) := by decide +kernel
theorem dX12_back_12 : decode cX12_back 12 = .ok (.iload_n 1, 1) := by decide +kernel
theorem dX12_back_13 : decode cX12_back 13 = .ok (.ifCond .lt 11, 3) := by decide +kernel
theorem dX12_back_16 : decode cX12_back 16 = .ok (.iload_n 1, 1) := by decide +kernel
theorem dX12_back_17 : decode cX12_back 17 = .ok (.aload_n 0, 1) := by decide +kernel
theorem dX12_back_18 : decode cX12_back 18 = .ok (.getfield 363, 3) := by decide +kernel
theorem dX12_back_21 : decode cX12_back 21 = .ok (.if_icmp .lt 9, 3) := by decide +kernel
theorem dX12_back_24 : decode cX12_back 24 = .ok (.aload_n 0, 1) := by decide +kernel
theorem dX12_back_25 : decode cX12_back 25 = .ok (.iconst 1, 1) := by decide +kernel
theorem dX12_back_26 : decode cX12_back 26 = .ok (.invokevirtual 415, 3) := by decide +kernel
theorem dX12_back_29 : decode cX12_back 29 = .ok (.ireturn, 1) := by decide +kernel
theorem dX12_back_30 : decode cX12_back 30 = .ok (.iconst 0, 1) := by decide +kernel
theorem dX12_back_31 : decode cX12_back 31 = .ok (.istore_n 2, 1) := by decide +kernel
theorem dX12_back_32 : decode cX12_back 32 = .ok (.iload_n 2, 1) := by decide +kernel
theorem dX12_back_33 : decode cX12_back 33 = .ok (.bipush 51, 2) := by decide +kernel
theorem dX12_back_35 : decode cX12_back 35 = .ok (.if_icmp .ge 26, 3) := by decide +kernel
theorem dX12_back_38 : decode cX12_back 38 = .ok (.aload_n 0, 1) := by decide +kernel
theorem dX12_back_39 : decode cX12_back 39 = .ok (.getfield 36, 3) := by decide +kernel
theorem dX12_back_42 : decode cX12_back 42 = .ok (.iload_n 2, 1) := by decide +kernel
theorem dX12_back_43 : decode cX12_back 43 = .ok (.aload_n 0, 1) := by decide +kernel
theorem dX12_back_44 : decode cX12_back 44 = .ok (.getfield 30, 3) := by decide +kernel
theorem dX12_back_47 : decode cX12_back 47 = .ok (.bipush 51, 2) := by decide +kernel
theorem dX12_back_49 : decode cX12_back 49 = .ok (.iload_n 1, 1) := by decide +kernel
theorem dX12_back_50 : decode cX12_back 50 = .ok (.imul, 1) := by decide +kernel
theorem dX12_back_51 : decode cX12_back 51 = .ok (.iload_n 2, 1) := by decide +kernel
theorem dX12_back_52 : decode cX12_back 52 = .ok (.iadd, 1) := by decide +kernel
theorem dX12_back_53 : decode cX12_back 53 = .ok (.iaload, 1) := by decide +kernel
theorem dX12_back_54 : decode cX12_back 54 = .ok (.iastore, 1) := by decide +kernel
theorem dX12_back_55 : decode cX12_back 55 = .ok (.iinc 2 1, 3) := by decide +kernel
theorem dX12_back_58 : decode cX12_back 58 = .ok (.goto (-26), 3) := by decide +kernel
theorem dX12_back_61 : decode cX12_back 61 = .ok (.aload_n 0, 1) := by decide +kernel
theorem dX12_back_62 : decode cX12_back 62 = .ok (.invokevirtual 418, 3) := by decide +kernel
theorem dX12_back_65 : decode cX12_back 65 = .ok (.ireturn, 1) := by decide +kernel
theorem dX12_notesDown_0 : decode cX12_notesDown 0 = .ok (.aload_n 0, 1) := by decide +kernel
theorem dX12_notesDown_1 : decode cX12_notesDown 1 = .ok (.getfield 360, 3) := by decide +kernel
theorem dX12_notesDown_4 : decode cX12_notesDown 4 = .ok (.bipush 20, 2) := by decide +kernel
theorem dX12_notesDown_6 : decode cX12_notesDown 6 = .ok (.if_icmp .ne 9, 3) := by decide +kernel
theorem dX12_notesDown_9 : decode cX12_notesDown 9 = .ok (.aload_n 0, 1) := by decide +kernel
theorem dX12_notesDown_10 : decode cX12_notesDown 10 = .ok (.iconst 3, 1) := by decide +kernel
theorem dX12_notesDown_11 : decode cX12_notesDown 11 = .ok (.invokevirtual 77, 3) := by decide +kernel
theorem dX12_notesDown_14 : decode cX12_notesDown 14 = .ok (.ireturn, 1) := by decide +kernel
theorem dX12_notesDown_15 : decode cX12_notesDown 15 = .ok (.aload_n 0, 1) := by decide +kernel
theorem dX12_notesDown_16 : decode cX12_notesDown 16 = .ok (.getfield 39, 3) := by decide +kernel
theorem dX12_notesDown_19 : decode cX12_notesDown 19 = .ok (.aload_n 0, 1) := by decide +kernel
theorem dX12_notesDown_20 : decode cX12_notesDown 20 = .ok (.getfield 360, 3) := by decide +kernel
theorem dX12_notesDown_23 : decode cX12_notesDown 23 = .ok (.iload_n 1, 1) := by decide +kernel
theorem dX12_notesDown_24 : decode cX12_notesDown 24 = .ok (.iastore, 1) := by decide +kernel
theorem dX12_notesDown_25 : decode cX12_notesDown 25 = .ok (.aload_n 0, 1) := by decide +kernel
theorem dX12_notesDown_26 : decode cX12_notesDown 26 = .ok (.getfield 42, 3) := by decide +kernel
theorem dX12_notesDown_29 : decode cX12_notesDown 29 = .ok (.aload_n 0, 1) := by decide +kernel
theorem dX12_notesDown_30 : decode cX12_notesDown 30 = .ok (.getfield 360, 3) := by decide +kernel
theorem dX12_notesDown_33 : decode cX12_notesDown 33 = .ok (.iload_n 2, 1) := by decide +kernel
theorem dX12_notesDown_34 : decode cX12_notesDown 34 = .ok (.iastore, 1) := by decide +kernel
theorem dX12_notesDown_35 : decode cX12_notesDown 35 = .ok (.aload_n 0, 1) := by decide +kernel
theorem dX12_notesDown_36 : decode cX12_notesDown 36 = .ok (.getfield 45, 3) := by decide +kernel
theorem dX12_notesDown_39 : decode cX12_notesDown 39 = .ok (.aload_n 0, 1) := by decide +kernel
theorem dX12_notesDown_40 : decode cX12_notesDown 40 = .ok (.getfield 360, 3) := by decide +kernel
theorem dX12_notesDown_43 : decode cX12_notesDown 43 = .ok (.iload_n 3, 1) := by decide +kernel
theorem dX12_notesDown_44 : decode cX12_notesDown 44 = .ok (.iastore, 1) := by decide +kernel
theorem dX12_notesDown_45 : decode cX12_notesDown 45 = .ok (.aload_n 0, 1) := by decide +kernel
theorem dX12_notesDown_46 : decode cX12_notesDown 46 = .ok (.getfield 48, 3) := by decide +kernel
theorem dX12_notesDown_49 : decode cX12_notesDown 49 = .ok (.aload_n 0, 1) := by decide +kernel
theorem dX12_notesDown_50 : decode cX12_notesDown 50 = .ok (.getfield 360, 3) := by decide +kernel
theorem dX12_notesDown_53 : decode cX12_notesDown 53 = .ok (.iload 4, 2) := by decide +kernel
theorem dX12_notesDown_55 : decode cX12_notesDown 55 = .ok (.iastore, 1) := by decide +kernel
theorem dX12_notesDown_56 : decode cX12_notesDown 56 = .ok (.aload_n 0, 1) := by decide +kernel
theorem dX12_notesDown_57 : decode cX12_notesDown 57 = .ok (.getfield 51, 3) := by decide +kernel
theorem dX12_notesDown_60 : decode cX12_notesDown 60 = .ok (.aload_n 0, 1) := by decide +kernel
theorem dX12_notesDown_61 : decode cX12_notesDown 61 = .ok (.getfield 360, 3) := by decide +kernel
theorem dX12_notesDown_64 : decode cX12_notesDown 64 = .ok (.iload 5, 2) := by decide +kernel
theorem dX12_notesDown_66 : decode cX12_notesDown 66 = .ok (.bastore, 1) := by decide +kernel
theorem dX12_notesDown_67 : decode cX12_notesDown 67 = .ok (.aload_n 0, 1) := by decide +kernel
theorem dX12_notesDown_68 : decode cX12_notesDown 68 = .ok (.dup, 1) := by decide +kernel
theorem dX12_notesDown_69 : decode cX12_notesDown 69 = .ok (.getfield 360, 3) := by decide +kernel
theorem dX12_notesDown_72 : decode cX12_notesDown 72 = .ok (.iconst 1, 1) := by decide +kernel
theorem dX12_notesDown_73 : decode cX12_notesDown 73 = .ok (.iadd, 1) := by decide +kernel
theorem dX12_notesDown_74 : decode cX12_notesDown 74 = .ok (.putfield 360, 3) := by decide +kernel
theorem dX12_notesDown_77 : decode cX12_notesDown 77 = .ok (.aload_n 0, 1) := by decide +kernel
theorem dX12_notesDown_78 : decode cX12_notesDown 78 = .ok (.aload_n 0, 1) := by decide +kernel
theorem dX12_notesDown_79 : decode cX12_notesDown 79 = .ok (.getfield 360, 3) := by decide +kernel
theorem dX12_notesDown_82 : decode cX12_notesDown 82 = .ok (.invokevirtual 81, 3) := by decide +kernel
theorem dX12_notesDown_85 : decode cX12_notesDown 85 = .ok (.ireturn, 1) := by decide +kernel
theorem dX12_isBook_0 : decode cX12_isBook 0 = .ok (.iload_n 0, 1) := by decide +kernel
theorem dX12_isBook_1 : decode cX12_isBook 1 = .ok (.iconst 0, 1) := by decide +kernel
theorem dX12_isBook_2 : decode cX12_isBook 2 = .ok (.iconst 1, 1) := by decide +kernel
theorem dX12_isBook_3 : decode cX12_isBook 3 = .ok (.invokestatic 149, 3) := by decide +kernel
theorem dX12_isBook_6 : decode cX12_isBook 6 = .ok (.ireturn, 1) := by decide +kernel
theorem dX12_noteHeard_0 : decode cX12_noteHeard 0 = .ok (.aload_n 0, 1) := by decide +kernel
theorem dX12_noteHeard_1 : decode cX12_noteHeard 1 = .ok (.iconst 0, 1) := by decide +kernel
theorem dX12_noteHeard_2 : decode cX12_noteHeard 2 = .ok (.putfield 71, 3) := by decide +kernel
theorem dX12_noteHeard_5 : decode cX12_noteHeard 5 = .ok (.iload_n 1, 1) := by decide +kernel
theorem dX12_noteHeard_6 : decode cX12_noteHeard 6 = .ok (.invokestatic 445, 3) := by decide +kernel
theorem dX12_noteHeard_9 : decode cX12_noteHeard 9 = .ok (.ifCond .eq 11, 3) := by decide +kernel
theorem dX12_noteHeard_12 : decode cX12_noteHeard 12 = .ok (.aload_n 0, 1) := by decide +kernel
theorem dX12_noteHeard_13 : decode cX12_noteHeard 13 = .ok (.iload_n 2, 1) := by decide +kernel
theorem dX12_noteHeard_14 : decode cX12_noteHeard 14 = .ok (.invokevirtual 436, 3) := by decide +kernel
theorem dX12_noteHeard_17 : decode cX12_noteHeard 17 = .ok (.ifCond .ne 9, 3) := by decide +kernel
theorem dX12_noteHeard_20 : decode cX12_noteHeard 20 = .ok (.aload_n 0, 1) := by decide +kernel
theorem dX12_noteHeard_21 : decode cX12_noteHeard 21 = .ok (.iconst 1, 1) := by decide +kernel
theorem dX12_noteHeard_22 : decode cX12_noteHeard 22 = .ok (.invokevirtual 77, 3) := by decide +kernel
theorem dX12_noteHeard_25 : decode cX12_noteHeard 25 = .ok (.ireturn, 1) := by decide +kernel
theorem dX12_noteHeard_26 : decode cX12_noteHeard 26 = .ok (.iload_n 3, 1) := by decide +kernel
theorem dX12_noteHeard_27 : decode cX12_noteHeard 27 = .ok (.iconst 1, 1) := by decide +kernel
theorem dX12_noteHeard_28 : decode cX12_noteHeard 28 = .ok (.aload_n 0, 1) := by decide +kernel
theorem dX12_noteHeard_29 : decode cX12_noteHeard 29 = .ok (.getfield 358, 3) := by decide +kernel
theorem dX12_noteHeard_32 : decode cX12_noteHeard 32 = .ok (.getfield 241, 3) := by decide +kernel
theorem dX12_noteHeard_35 : decode cX12_noteHeard 35 = .ok (.invokestatic 149, 3) := by decide +kernel
theorem dX12_noteHeard_38 : decode cX12_noteHeard 38 = .ok (.ifCond .eq 16, 3) := by decide +kernel
theorem dX12_noteHeard_41 : decode cX12_noteHeard 41 = .ok (.aload_n 0, 1) := by decide +kernel
theorem dX12_noteHeard_42 : decode cX12_noteHeard 42 = .ok (.iload_n 1, 1) := by decide +kernel
theorem dX12_noteHeard_43 : decode cX12_noteHeard 43 = .ok (.iconst 0, 1) := by decide +kernel
theorem dX12_noteHeard_44 : decode cX12_noteHeard 44 = .ok (.iload_n 2, 1) := by decide +kernel
theorem dX12_noteHeard_45 : decode cX12_noteHeard 45 = .ok (.iload_n 3, 1) := by decide +kernel
theorem dX12_noteHeard_46 : decode cX12_noteHeard 46 = .ok (.iload 4, 2) := by decide +kernel
theorem dX12_noteHeard_48 : decode cX12_noteHeard 48 = .ok (.invokevirtual 448, 3) := by decide +kernel
theorem dX12_noteHeard_51 : decode cX12_noteHeard 51 = .ok (.goto 8, 3) := by decide +kernel
theorem dX12_noteHeard_54 : decode cX12_noteHeard 54 = .ok (.aload_n 0, 1) := by decide +kernel
theorem dX12_noteHeard_55 : decode cX12_noteHeard 55 = .ok (.iconst 2, 1) := by decide +kernel
theorem dX12_noteHeard_56 : decode cX12_noteHeard 56 = .ok (.invokevirtual 77, 3) := by decide +kernel
theorem dX12_noteHeard_59 : decode cX12_noteHeard 59 = .ok (.ireturn, 1) := by decide +kernel
theorem dX12_noteThing_0 : decode cX12_noteThing 0 = .ok (.aload_n 0, 1) := by decide +kernel
theorem dX12_noteThing_1 : decode cX12_noteThing 1 = .ok (.iconst 0, 1) := by decide +kernel
theorem dX12_noteThing_2 : decode cX12_noteThing 2 = .ok (.putfield 71, 3) := by decide +kernel
theorem dX12_noteThing_5 : decode cX12_noteThing 5 = .ok (.iload_n 1, 1) := by decide +kernel
theorem dX12_noteThing_6 : decode cX12_noteThing 6 = .ok (.invokestatic 445, 3) := by decide +kernel
theorem dX12_noteThing_9 : decode cX12_noteThing 9 = .ok (.ifCond .eq 31, 3) := by decide +kernel
theorem dX12_noteThing_12 : decode cX12_noteThing 12 = .ok (.aload_n 0, 1) := by decide +kernel
theorem dX12_noteThing_13 : decode cX12_noteThing 13 = .ok (.iload_n 2, 1) := by decide +kernel
theorem dX12_noteThing_14 : decode cX12_noteThing 14 = .ok (.invokevirtual 430, 3) := by decide +kernel
theorem dX12_noteThing_17 : decode cX12_noteThing 17 = .ok (.ifCond .eq 23, 3) := by decide +kernel
theorem dX12_noteThing_20 : decode cX12_noteThing 20 = .ok (.aload_n 0, 1) := by decide +kernel
theorem dX12_noteThing_21 : decode cX12_noteThing 21 = .ok (.iload_n 3, 1) := by decide +kernel
theorem dX12_noteThing_22 : decode cX12_noteThing 22 = .ok (.invokevirtual 379, 3) := by decide +kernel
theorem dX12_noteThing_25 : decode cX12_noteThing 25 = .ok (.ifCond .eq 15, 3) := by decide +kernel
theorem dX12_noteThing_28 : decode cX12_noteThing 28 = .ok (.aload_n 0, 1) := by decide +kernel
theorem dX12_noteThing_29 : decode cX12_noteThing 29 = .ok (.iload_n 1, 1) := by decide +kernel
theorem dX12_noteThing_30 : decode cX12_noteThing 30 = .ok (.iconst 1, 1) := by decide +kernel
theorem dX12_noteThing_31 : decode cX12_noteThing 31 = .ok (.iload_n 2, 1) := by decide +kernel
theorem dX12_noteThing_32 : decode cX12_noteThing 32 = .ok (.iload_n 3, 1) := by decide +kernel
theorem dX12_noteThing_33 : decode cX12_noteThing 33 = .ok (.iconst 1, 1) := by decide +kernel
theorem dX12_noteThing_34 : decode cX12_noteThing 34 = .ok (.invokevirtual 448, 3) := by decide +kernel
theorem dX12_noteThing_37 : decode cX12_noteThing 37 = .ok (.goto 8, 3) := by decide +kernel
theorem dX12_noteThing_40 : decode cX12_noteThing 40 = .ok (.aload_n 0, 1) := by decide +kernel
theorem dX12_noteThing_41 : decode cX12_noteThing 41 = .ok (.iconst 1, 1) := by decide +kernel
theorem dX12_noteThing_42 : decode cX12_noteThing 42 = .ok (.invokevirtual 77, 3) := by decide +kernel
theorem dX12_noteThing_45 : decode cX12_noteThing 45 = .ok (.ireturn, 1) := by decide +kernel
theorem dX12_noteDoor_0 : decode cX12_noteDoor 0 = .ok (.aload_n 0, 1) := by decide +kernel
theorem dX12_noteDoor_1 : decode cX12_noteDoor 1 = .ok (.iconst 0, 1) := by decide +kernel
theorem dX12_noteDoor_2 : decode cX12_noteDoor 2 = .ok (.putfield 71, 3) := by decide +kernel
theorem dX12_noteDoor_5 : decode cX12_noteDoor 5 = .ok (.iload_n 1, 1) := by decide +kernel
theorem dX12_noteDoor_6 : decode cX12_noteDoor 6 = .ok (.invokestatic 445, 3) := by decide +kernel
theorem dX12_noteDoor_9 : decode cX12_noteDoor 9 = .ok (.ifCond .eq 11, 3) := by decide +kernel
theorem dX12_noteDoor_12 : decode cX12_noteDoor 12 = .ok (.aload_n 0, 1) := by decide +kernel
theorem dX12_noteDoor_13 : decode cX12_noteDoor 13 = .ok (.iload_n 2, 1) := by decide +kernel
theorem dX12_noteDoor_14 : decode cX12_noteDoor 14 = .ok (.invokevirtual 433, 3) := by decide +kernel
theorem dX12_noteDoor_17 : decode cX12_noteDoor 17 = .ok (.ifCond .ne 9, 3) := by decide +kernel
theorem dX12_noteDoor_20 : decode cX12_noteDoor 20 = .ok (.aload_n 0, 1) := by decide +kernel
theorem dX12_noteDoor_21 : decode cX12_noteDoor 21 = .ok (.iconst 1, 1) := by decide +kernel
theorem dX12_noteDoor_22 : decode cX12_noteDoor 22 = .ok (.invokevirtual 77, 3) := by decide +kernel
theorem dX12_noteDoor_25 : decode cX12_noteDoor 25 = .ok (.ireturn, 1) := by decide +kernel
theorem dX12_noteDoor_26 : decode cX12_noteDoor 26 = .ok (.iload_n 3, 1) := by decide +kernel
theorem dX12_noteDoor_27 : decode cX12_noteDoor 27 = .ok (.iconst 0, 1) := by decide +kernel
theorem dX12_noteDoor_28 : decode cX12_noteDoor 28 = .ok (.iconst 2, 1) := by decide +kernel
theorem dX12_noteDoor_29 : decode cX12_noteDoor 29 = .ok (.invokestatic 149, 3) := by decide +kernel
theorem dX12_noteDoor_32 : decode cX12_noteDoor 32 = .ok (.ifCond .eq 15, 3) := by decide +kernel
theorem dX12_noteDoor_35 : decode cX12_noteDoor 35 = .ok (.aload_n 0, 1) := by decide +kernel
theorem dX12_noteDoor_36 : decode cX12_noteDoor 36 = .ok (.iload_n 1, 1) := by decide +kernel
theorem dX12_noteDoor_37 : decode cX12_noteDoor 37 = .ok (.iconst 2, 1) := by decide +kernel
theorem dX12_noteDoor_38 : decode cX12_noteDoor 38 = .ok (.iload_n 2, 1) := by decide +kernel
theorem dX12_noteDoor_39 : decode cX12_noteDoor 39 = .ok (.iload_n 3, 1) := by decide +kernel
theorem dX12_noteDoor_40 : decode cX12_noteDoor 40 = .ok (.iconst 1, 1) := by decide +kernel
theorem dX12_noteDoor_41 : decode cX12_noteDoor 41 = .ok (.invokevirtual 448, 3) := by decide +kernel
theorem dX12_noteDoor_44 : decode cX12_noteDoor 44 = .ok (.goto 8, 3) := by decide +kernel
theorem dX12_noteDoor_47 : decode cX12_noteDoor 47 = .ok (.aload_n 0, 1) := by decide +kernel
theorem dX12_noteDoor_48 : decode cX12_noteDoor 48 = .ok (.iconst 2, 1) := by decide +kernel
theorem dX12_noteDoor_49 : decode cX12_noteDoor 49 = .ok (.invokevirtual 77, 3) := by decide +kernel
theorem dX12_noteDoor_52 : decode cX12_noteDoor 52 = .ok (.ireturn, 1) := by decide +kernel
theorem dX12_strike_0 : decode cX12_strike 0 = .ok (.aload_n 0, 1) := by decide +kernel
theorem dX12_strike_1 : decode cX12_strike 1 = .ok (.iconst 0, 1) := by decide +kernel
theorem dX12_strike_2 : decode cX12_strike 2 = .ok (.putfield 71, 3) := by decide +kernel
theorem dX12_strike_5 : decode cX12_strike 5 = .ok (.aload_n 0, 1) := by decide +kernel
theorem dX12_strike_6 : decode cX12_strike 6 = .ok (.getfield 360, 3) := by decide +kernel
theorem dX12_strike_9 : decode cX12_strike 9 = .ok (.ifCond .ne 10, 3) := by decide +kernel
theorem dX12_strike_12 : decode cX12_strike 12 = .ok (.aload_n 0, 1) := by decide +kernel
theorem dX12_strike_13 : decode cX12_strike 13 = .ok (.bipush 6, 2) := by decide +kernel
theorem dX12_strike_15 : decode cX12_strike 15 = .ok (.invokevirtual 415, 3) := by decide +kernel
theorem dX12_strike_18 : decode cX12_strike 18 = .ok (.ireturn, 1) := by decide +kernel
theorem dX12_strike_19 : decode cX12_strike 19 = .ok (.aload_n 0, 1) := by decide +kernel
theorem dX12_strike_20 : decode cX12_strike 20 = .ok (.dup, 1) := by decide +kernel
theorem dX12_strike_21 : decode cX12_strike 21 = .ok (.getfield 360, 3) := by decide +kernel
theorem dX12_strike_24 : decode cX12_strike 24 = .ok (.iconst 1, 1) := by decide +kernel
theorem dX12_strike_25 : decode cX12_strike 25 = .ok (.isub, 1) := by decide +kernel
theorem dX12_strike_26 : decode cX12_strike 26 = .ok (.putfield 360, 3) := by decide +kernel
theorem dX12_strike_29 : decode cX12_strike 29 = .ok (.aload_n 0, 1) := by decide +kernel
theorem dX12_strike_30 : decode cX12_strike 30 = .ok (.invokevirtual 418, 3) := by decide +kernel
theorem dX12_strike_33 : decode cX12_strike 33 = .ok (.ireturn, 1) := by decide +kernel
theorem dX12_isNoted_0 : decode cX12_isNoted 0 = .ok (.aload_n 0, 1) := by decide +kernel
theorem dX12_isNoted_1 : decode cX12_isNoted 1 = .ok (.getfield 42, 3) := by decide +kernel
theorem dX12_isNoted_4 : decode cX12_isNoted 4 = .ok (.iload_n 1, 1) := by decide +kernel
theorem dX12_isNoted_5 : decode cX12_isNoted 5 = .ok (.iaload, 1) := by decide +kernel
theorem dX12_isNoted_6 : decode cX12_isNoted 6 = .ok (.ifCond .ne 34, 3) := by decide +kernel
theorem dX12_isNoted_9 : decode cX12_isNoted 9 = .ok (.aload_n 0, 1) := by decide +kernel
theorem dX12_isNoted_10 : decode cX12_isNoted 10 = .ok (.aload_n 0, 1) := by decide +kernel
theorem dX12_isNoted_11 : decode cX12_isNoted 11 = .ok (.getfield 45, 3) := by decide +kernel
theorem dX12_isNoted_14 : decode cX12_isNoted 14 = .ok (.iload_n 1, 1) := by decide +kernel
theorem dX12_isNoted_15 : decode cX12_isNoted 15 = .ok (.iaload, 1) := by decide +kernel
theorem dX12_isNoted_16 : decode cX12_isNoted 16 = .ok (.aload_n 0, 1) := by decide +kernel
theorem dX12_isNoted_17 : decode cX12_isNoted 17 = .ok (.getfield 48, 3) := by decide +kernel
theorem dX12_isNoted_20 : decode cX12_isNoted 20 = .ok (.iload_n 1, 1) := by decide +kernel
theorem dX12_isNoted_21 : decode cX12_isNoted 21 = .ok (.iaload, 1) := by decide +kernel
theorem dX12_isNoted_22 : decode cX12_isNoted 22 = .ok (.invokevirtual 439, 3) := by decide +kernel
theorem dX12_isNoted_25 : decode cX12_isNoted 25 = .ok (.aload_n 0, 1) := by decide +kernel
theorem dX12_isNoted_26 : decode cX12_isNoted 26 = .ok (.getfield 51, 3) := by decide +kernel
theorem dX12_isNoted_29 : decode cX12_isNoted 29 = .ok (.iload_n 1, 1) := by decide +kernel
theorem dX12_isNoted_30 : decode cX12_isNoted 30 = .ok (.baload, 1) := by decide +kernel
theorem dX12_isNoted_31 : decode cX12_isNoted 31 = .ok (.if_icmp .ne 7, 3) := by decide +kernel
theorem dX12_isNoted_34 : decode cX12_isNoted 34 = .ok (.iconst 1, 1) := by decide +kernel
theorem dX12_isNoted_35 : decode cX12_isNoted 35 = .ok (.goto 4, 3) := by decide +kernel
theorem dX12_isNoted_38 : decode cX12_isNoted 38 = .ok (.iconst 0, 1) := by decide +kernel
theorem dX12_isNoted_39 : decode cX12_isNoted 39 = .ok (.ireturn, 1) := by decide +kernel
theorem dX12_isNoted_40 : decode cX12_isNoted 40 = .ok (.aload_n 0, 1) := by decide +kernel
theorem dX12_isNoted_41 : decode cX12_isNoted 41 = .ok (.getfield 36, 3) := by decide +kernel
theorem dX12_isNoted_44 : decode cX12_isNoted 44 = .ok (.aload_n 0, 1) := by decide +kernel
theorem dX12_isNoted_45 : decode cX12_isNoted 45 = .ok (.getfield 42, 3) := by decide +kernel
theorem dX12_isNoted_48 : decode cX12_isNoted 48 = .ok (.iload_n 1, 1) := by decide +kernel
theorem dX12_isNoted_49 : decode cX12_isNoted 49 = .ok (.iaload, 1) := by decide +kernel
theorem dX12_isNoted_50 : decode cX12_isNoted 50 = .ok (.iconst 1, 1) := by decide +kernel
theorem dX12_isNoted_51 : decode cX12_isNoted 51 = .ok (.if_icmp .ne 8, 3) := by decide +kernel
theorem dX12_isNoted_54 : decode cX12_isNoted 54 = .ok (.bipush 15, 2) := by decide +kernel
theorem dX12_isNoted_56 : decode cX12_isNoted 56 = .ok (.goto 5, 3) := by decide +kernel
theorem dX12_isNoted_59 : decode cX12_isNoted 59 = .ok (.bipush 23, 2) := by decide +kernel
theorem dX12_isNoted_61 : decode cX12_isNoted 61 = .ok (.aload_n 0, 1) := by decide +kernel
theorem dX12_isNoted_62 : decode cX12_isNoted 62 = .ok (.getfield 45, 3) := by decide +kernel
theorem dX12_isNoted_65 : decode cX12_isNoted 65 = .ok (.iload_n 1, 1) := by decide +kernel
theorem dX12_isNoted_66 : decode cX12_isNoted 66 = .ok (.iaload, 1) := by decide +kernel
theorem dX12_isNoted_67 : decode cX12_isNoted 67 = .ok (.iadd, 1) := by decide +kernel
theorem dX12_isNoted_68 : decode cX12_isNoted 68 = .ok (.iaload, 1) := by decide +kernel
theorem dX12_isNoted_69 : decode cX12_isNoted 69 = .ok (.aload_n 0, 1) := by decide +kernel
theorem dX12_isNoted_70 : decode cX12_isNoted 70 = .ok (.getfield 48, 3) := by decide +kernel
theorem dX12_isNoted_73 : decode cX12_isNoted 73 = .ok (.iload_n 1, 1) := by decide +kernel
theorem dX12_isNoted_74 : decode cX12_isNoted 74 = .ok (.iaload, 1) := by decide +kernel
theorem dX12_isNoted_75 : decode cX12_isNoted 75 = .ok (.if_icmp .ne 7, 3) := by decide +kernel
theorem dX12_isNoted_78 : decode cX12_isNoted 78 = .ok (.iconst 1, 1) := by decide +kernel
theorem dX12_isNoted_79 : decode cX12_isNoted 79 = .ok (.goto 4, 3) := by decide +kernel
theorem dX12_isNoted_82 : decode cX12_isNoted 82 = .ok (.iconst 0, 1) := by decide +kernel
theorem dX12_isNoted_83 : decode cX12_isNoted 83 = .ok (.ireturn, 1) := by decide +kernel
theorem dX12_castMany_0 : decode cX12_castMany 0 = .ok (.iconst 1, 1) := by decide +kernel
theorem dX12_castMany_1 : decode cX12_castMany 1 = .ok (.istore_n 1, 1) := by decide +kernel
theorem dX12_castMany_2 : decode cX12_castMany 2 = .ok (.iconst 0, 1) := by decide +kernel
theorem dX12_castMany_3 : decode cX12_castMany 3 = .ok (.istore_n 2, 1) := by decide +kernel
theorem dX12_castMany_4 : decode cX12_castMany 4 = .ok (.iload_n 2, 1) := by decide +kernel
theorem dX12_castMany_5 : decode cX12_castMany 5 = .ok (.aload_n 0, 1) := by decide +kernel
theorem dX12_castMany_6 : decode cX12_castMany 6 = .ok (.getfield 358, 3) := by decide +kernel
theorem dX12_castMany_9 : decode cX12_castMany 9 = .ok (.getfield 247, 3) := by decide +kernel
theorem dX12_castMany_12 : decode cX12_castMany 12 = .ok (.if_icmp .ge 19, 3) := by decide +kernel
theorem dX12_castMany_15 : decode cX12_castMany 15 = .ok (.iload_n 1, 1) := by decide +kernel
theorem dX12_castMany_16 : decode cX12_castMany 16 = .ok (.aload_n 0, 1) := by decide +kernel
theorem dX12_castMany_17 : decode cX12_castMany 17 = .ok (.getfield 358, 3) := by decide +kernel
theorem dX12_castMany_20 : decode cX12_castMany 20 = .ok (.getfield 325, 3) := by decide +kernel
theorem dX12_castMany_23 : decode cX12_castMany 23 = .ok (.imul, 1) := by decide +kernel
theorem dX12_castMany_24 : decode cX12_castMany 24 = .ok (.istore_n 1, 1) := by decide +kernel
theorem dX12_castMany_25 : decode cX12_castMany 25 = .ok (.iinc 2 1, 3) := by decide +kernel
theorem dX12_castMany_28 : decode cX12_castMany 28 = .ok (.goto (-24), 3) := by decide +kernel
theorem dX12_castMany_31 : decode cX12_castMany 31 = .ok (.iload_n 1, 1) := by decide +kernel
theorem dX12_castMany_32 : decode cX12_castMany 32 = .ok (.ireturn, 1) := by decide +kernel
theorem dX12_casts_0 : decode cX12_casts 0 = .ok (.iload_n 1, 1) := by decide +kernel
theorem dX12_casts_1 : decode cX12_casts 1 = .ok (.istore_n 2, 1) := by decide +kernel
theorem dX12_casts_2 : decode cX12_casts 2 = .ok (.aload_n 0, 1) := by decide +kernel
theorem dX12_casts_3 : decode cX12_casts 3 = .ok (.getfield 358, 3) := by decide +kernel
theorem dX12_casts_6 : decode cX12_casts 6 = .ok (.getfield 247, 3) := by decide +kernel
theorem dX12_casts_9 : decode cX12_casts 9 = .ok (.iconst 1, 1) := by decide +kernel
theorem dX12_casts_10 : decode cX12_casts 10 = .ok (.isub, 1) := by decide +kernel
theorem dX12_casts_11 : decode cX12_casts 11 = .ok (.istore_n 3, 1) := by decide +kernel
theorem dX12_casts_12 : decode cX12_casts 12 = .ok (.iload_n 3, 1) := by decide +kernel
theorem dX12_casts_13 : decode cX12_casts 13 = .ok (.ifCond .lt 37, 3) := by decide +kernel
theorem dX12_casts_16 : decode cX12_casts 16 = .ok (.aload_n 0, 1) := by decide +kernel
theorem dX12_casts_17 : decode cX12_casts 17 = .ok (.getfield 36, 3) := by decide +kernel
theorem dX12_casts_20 : decode cX12_casts 20 = .ok (.bipush 12, 2) := by decide +kernel
theorem dX12_casts_22 : decode cX12_casts 22 = .ok (.iload_n 3, 1) := by decide +kernel
theorem dX12_casts_23 : decode cX12_casts 23 = .ok (.iadd, 1) := by decide +kernel
theorem dX12_casts_24 : decode cX12_casts 24 = .ok (.iload_n 2, 1) := by decide +kernel
theorem dX12_casts_25 : decode cX12_casts 25 = .ok (.aload_n 0, 1) := by decide +kernel
theorem dX12_casts_26 : decode cX12_casts 26 = .ok (.getfield 358, 3) := by decide +kernel
theorem dX12_casts_29 : decode cX12_casts 29 = .ok (.getfield 325, 3) := by decide +kernel
theorem dX12_casts_32 : decode cX12_casts 32 = .ok (.irem, 1) := by decide +kernel
theorem dX12_casts_33 : decode cX12_casts 33 = .ok (.iastore, 1) := by decide +kernel
theorem dX12_casts_34 : decode cX12_casts 34 = .ok (.iload_n 2, 1) := by decide +kernel
theorem dX12_casts_35 : decode cX12_casts 35 = .ok (.aload_n 0, 1) := by decide +kernel
theorem dX12_casts_36 : decode cX12_casts 36 = .ok (.getfield 358, 3) := by decide +kernel
theorem dX12_casts_39 : decode cX12_casts 39 = .ok (.getfield 325, 3) := by decide +kernel
theorem dX12_casts_42 : decode cX12_casts 42 = .ok (.idiv, 1) := by decide +kernel
theorem dX12_casts_43 : decode cX12_casts 43 = .ok (.istore_n 2, 1) := by decide +kernel
theorem dX12_casts_44 : decode cX12_casts 44 = .ok (.iinc 3 (-1), 3) := by decide +kernel
theorem dX12_casts_47 : decode cX12_casts 47 = .ok (.goto (-35), 3) := by decide +kernel
theorem dX12_casts_50 : decode cX12_casts 50 = .ok (.return_, 1) := by decide +kernel
theorem dX12_fitsBy_0 : decode cX12_fitsBy 0 = .ok (.aload_n 0, 1) := by decide +kernel
theorem dX12_fitsBy_1 : decode cX12_fitsBy 1 = .ok (.aload_n 0, 1) := by decide +kernel
theorem dX12_fitsBy_2 : decode cX12_fitsBy 2 = .ok (.getfield 27, 3) := by decide +kernel
theorem dX12_fitsBy_5 : decode cX12_fitsBy 5 = .ok (.putfield 36, 3) := by decide +kernel
theorem dX12_fitsBy_8 : decode cX12_fitsBy 8 = .ok (.iconst 0, 1) := by decide +kernel
theorem dX12_fitsBy_9 : decode cX12_fitsBy 9 = .ok (.istore_n 2, 1) := by decide +kernel
theorem dX12_fitsBy_10 : decode cX12_fitsBy 10 = .ok (.iconst 0, 1) := by decide +kernel
theorem dX12_fitsBy_11 : decode cX12_fitsBy 11 = .ok (.istore_n 3, 1) := by decide +kernel
theorem dX12_fitsBy_12 : decode cX12_fitsBy 12 = .ok (.iload_n 3, 1) := by decide +kernel
theorem dX12_fitsBy_13 : decode cX12_fitsBy 13 = .ok (.aload_n 0, 1) := by decide +kernel
theorem dX12_fitsBy_14 : decode cX12_fitsBy 14 = .ok (.invokevirtual 452, 3) := by decide +kernel
theorem dX12_fitsBy_17 : decode cX12_fitsBy 17 = .ok (.if_icmp .ge 95, 3) := by decide +kernel
theorem dX12_fitsBy_20 : decode cX12_fitsBy 20 = .ok (.aload_n 0, 1) := by decide +kernel
theorem dX12_fitsBy_21 : decode cX12_fitsBy 21 = .ok (.iload_n 3, 1) := by decide +kernel
theorem dX12_fitsBy_22 : decode cX12_fitsBy 22 = .ok (.invokevirtual 455, 3) := by decide +kernel
theorem dX12_fitsBy_25 : decode cX12_fitsBy 25 = .ok (.aload_n 0, 1) := by decide +kernel
theorem dX12_fitsBy_26 : decode cX12_fitsBy 26 = .ok (.iconst 0, 1) := by decide +kernel
theorem dX12_fitsBy_27 : decode cX12_fitsBy 27 = .ok (.bipush 40, 2) := by decide +kernel
theorem dX12_fitsBy_29 : decode cX12_fitsBy 29 = .ok (.invokevirtual 442, 3) := by decide +kernel
theorem dX12_fitsBy_32 : decode cX12_fitsBy 32 = .ok (.iconst 1, 1) := by decide +kernel
theorem dX12_fitsBy_33 : decode cX12_fitsBy 33 = .ok (.istore 4, 2) := by decide +kernel
theorem dX12_fitsBy_35 : decode cX12_fitsBy 35 = .ok (.iconst 0, 1) := by decide +kernel
theorem dX12_fitsBy_36 : decode cX12_fitsBy 36 = .ok (.istore 5, 2) := by decide +kernel
theorem dX12_fitsBy_38 : decode cX12_fitsBy 38 = .ok (.iload 5, 2) := by decide +kernel
theorem dX12_fitsBy_40 : decode cX12_fitsBy 40 = .ok (.aload_n 0, 1) := by decide +kernel
theorem dX12_fitsBy_41 : decode cX12_fitsBy 41 = .ok (.getfield 360, 3) := by decide +kernel
theorem dX12_fitsBy_44 : decode cX12_fitsBy 44 = .ok (.if_icmp .ge 44, 3) := by decide +kernel
theorem dX12_fitsBy_47 : decode cX12_fitsBy 47 = .ok (.iload 4, 2) := by decide +kernel
theorem dX12_fitsBy_49 : decode cX12_fitsBy 49 = .ok (.ifCond .eq 30, 3) := by decide +kernel
theorem dX12_fitsBy_52 : decode cX12_fitsBy 52 = .ok (.iload_n 1, 1) := by decide +kernel
theorem dX12_fitsBy_53 : decode cX12_fitsBy 53 = .ok (.aload_n 0, 1) := by decide +kernel
theorem dX12_fitsBy_54 : decode cX12_fitsBy 54 = .ok (.getfield 39, 3) := by decide +kernel
theorem dX12_fitsBy_57 : decode cX12_fitsBy 57 = .ok (.iload 5, 2) := by decide +kernel
theorem dX12_fitsBy_59 : decode cX12_fitsBy 59 = .ok (.iaload, 1) := by decide +kernel
theorem dX12_fitsBy_60 : decode cX12_fitsBy 60 = .ok (.invokestatic 372, 3) := by decide +kernel
theorem dX12_fitsBy_63 : decode cX12_fitsBy 63 = .ok (.ifCond .eq 12, 3) := by decide +kernel
theorem dX12_fitsBy_66 : decode cX12_fitsBy 66 = .ok (.aload_n 0, 1) := by decide +kernel
theorem dX12_fitsBy_67 : decode cX12_fitsBy 67 = .ok (.iload 5, 2) := by decide +kernel
theorem dX12_fitsBy_69 : decode cX12_fitsBy 69 = .ok (.invokevirtual 458, 3) := by decide +kernel
theorem dX12_fitsBy_72 : decode cX12_fitsBy 72 = .ok (.ifCond .eq 7, 3) := by decide +kernel
theorem dX12_fitsBy_75 : decode cX12_fitsBy 75 = .ok (.iconst 1, 1) := by decide +kernel
theorem dX12_fitsBy_76 : decode cX12_fitsBy 76 = .ok (.goto 4, 3) := by decide +kernel
theorem dX12_fitsBy_79 : decode cX12_fitsBy 79 = .ok (.iconst 0, 1) := by decide +kernel
theorem dX12_fitsBy_80 : decode cX12_fitsBy 80 = .ok (.istore 4, 2) := by decide +kernel
theorem dX12_fitsBy_82 : decode cX12_fitsBy 82 = .ok (.iinc 5 1, 3) := by decide +kernel
theorem dX12_fitsBy_85 : decode cX12_fitsBy 85 = .ok (.goto (-47), 3) := by decide +kernel
theorem dX12_fitsBy_88 : decode cX12_fitsBy 88 = .ok (.iload 4, 2) := by decide +kernel
theorem dX12_fitsBy_90 : decode cX12_fitsBy 90 = .ok (.ifCond .ne 6, 3) := by decide +kernel
theorem dX12_fitsBy_93 : decode cX12_fitsBy 93 = .ok (.goto 13, 3) := by decide +kernel
theorem dX12_fitsBy_96 : decode cX12_fitsBy 96 = .ok (.aload_n 0, 1) := by decide +kernel
theorem dX12_fitsBy_97 : decode cX12_fitsBy 97 = .ok (.getfield 55, 3) := by decide +kernel
theorem dX12_fitsBy_100 : decode cX12_fitsBy 100 = .ok (.iload_n 2, 1) := by decide +kernel
theorem dX12_fitsBy_101 : decode cX12_fitsBy 101 = .ok (.iload_n 3, 1) := by decide +kernel
theorem dX12_fitsBy_102 : decode cX12_fitsBy 102 = .ok (.iastore, 1) := by decide +kernel
theorem dX12_fitsBy_103 : decode cX12_fitsBy 103 = .ok (.iinc 2 1, 3) := by decide +kernel
theorem dX12_fitsBy_106 : decode cX12_fitsBy 106 = .ok (.iinc 3 1, 3) := by decide +kernel
theorem dX12_fitsBy_109 : decode cX12_fitsBy 109 = .ok (.goto (-97), 3) := by decide +kernel
theorem dX12_fitsBy_112 : decode cX12_fitsBy 112 = .ok (.aload_n 0, 1) := by decide +kernel
theorem dX12_fitsBy_113 : decode cX12_fitsBy 113 = .ok (.aload_n 0, 1) := by decide +kernel
theorem dX12_fitsBy_114 : decode cX12_fitsBy 114 = .ok (.getfield 24, 3) := by decide +kernel
theorem dX12_fitsBy_117 : decode cX12_fitsBy 117 = .ok (.putfield 36, 3) := by decide +kernel
theorem dX12_fitsBy_120 : decode cX12_fitsBy 120 = .ok (.iload_n 2, 1) := by decide +kernel
theorem dX12_fitsBy_121 : decode cX12_fitsBy 121 = .ok (.ireturn, 1) := by decide +kernel
theorem dX12_refusesBooks_0 : decode cX12_refusesBooks 0 = .ok (.aload_n 0, 1) := by decide +kernel
theorem dX12_refusesBooks_1 : decode cX12_refusesBooks 1 = .ok (.getfield 358, 3) := by decide +kernel
theorem dX12_refusesBooks_4 : decode cX12_refusesBooks 4 = .ok (.ifnonnull 7, 3) := by decide +kernel
theorem dX12_refusesBooks_11 : decode cX12_refusesBooks 11 = .ok (.iload_n 1, 1) := by decide +kernel
theorem dX12_refusesBooks_12 : decode cX12_refusesBooks 12 = .ok (.iconst 0, 1) := by decide +kernel
theorem dX12_refusesBooks_13 : decode cX12_refusesBooks 13 = .ok (.iconst 3, 1) := by decide +kernel
theorem dX12_refusesBooks_14 : decode cX12_refusesBooks 14 = .ok (.invokestatic 149, 3) := by decide +kernel
theorem dX12_refusesBooks_17 : decode cX12_refusesBooks 17 = .ok (.ifCond .eq 7, 3) := by decide +kernel
theorem dX12_refusesBooks_20 : decode cX12_refusesBooks 20 = .ok (.iconst 0, 1) := by decide +kernel
theorem dX12_refusesBooks_21 : decode cX12_refusesBooks 21 = .ok (.goto 4, 3) := by decide +kernel
theorem dX12_refusesBooks_24 : decode cX12_refusesBooks 24 = .ok (.iconst 2, 1) := by decide +kernel
theorem dX12_refusesBooks_25 : decode cX12_refusesBooks 25 = .ok (.ireturn, 1) := by decide +kernel
theorem dX12_refusesBooks_7 : decode cX12_refusesBooks 7 = .ok (.iconst 1, 1) := by decide +kernel
theorem dX12_refusesBooks_8 : decode cX12_refusesBooks 8 = .ok (.goto 17, 3) := by decide +kernel
theorem dX12_fits_0 : decode cX12_fits 0 = .ok (.aload_n 0, 1) := by decide +kernel
theorem dX12_fits_1 : decode cX12_fits 1 = .ok (.iconst 0, 1) := by decide +kernel
theorem dX12_fits_2 : decode cX12_fits 2 = .ok (.putfield 71, 3) := by decide +kernel
theorem dX12_fits_5 : decode cX12_fits 5 = .ok (.aload_n 0, 1) := by decide +kernel
theorem dX12_fits_6 : decode cX12_fits 6 = .ok (.iload_n 1, 1) := by decide +kernel
theorem dX12_fits_7 : decode cX12_fits 7 = .ok (.invokevirtual 461, 3) := by decide +kernel
theorem dX12_fits_10 : decode cX12_fits 10 = .ok (.istore_n 2, 1) := by decide +kernel
theorem dX12_fits_11 : decode cX12_fits 11 = .ok (.iload_n 2, 1) := by decide +kernel
theorem dX12_fits_12 : decode cX12_fits 12 = .ok (.ifCond .le 11, 3) := by decide +kernel
theorem dX12_fits_15 : decode cX12_fits 15 = .ok (.aload_n 0, 1) := by decide +kernel
theorem dX12_fits_16 : decode cX12_fits 16 = .ok (.iload_n 2, 1) := by decide +kernel
theorem dX12_fits_17 : decode cX12_fits 17 = .ok (.invokevirtual 77, 3) := by decide +kernel
theorem dX12_fits_20 : decode cX12_fits 20 = .ok (.goto 12, 3) := by decide +kernel
theorem dX12_fits_23 : decode cX12_fits 23 = .ok (.aload_n 0, 1) := by decide +kernel
theorem dX12_fits_24 : decode cX12_fits 24 = .ok (.aload_n 0, 1) := by decide +kernel
theorem dX12_fits_25 : decode cX12_fits 25 = .ok (.iload_n 1, 1) := by decide +kernel
theorem dX12_fits_26 : decode cX12_fits 26 = .ok (.invokevirtual 464, 3) := by decide +kernel
theorem dX12_fits_29 : decode cX12_fits 29 = .ok (.invokevirtual 81, 3) := by decide +kernel
theorem dX12_fits_32 : decode cX12_fits 32 = .ok (.ireturn, 1) := by decide +kernel
theorem dX12_dreamIn_0 : decode cX12_dreamIn 0 = .ok (.iload_n 1, 1) := by decide +kernel
theorem dX12_dreamIn_1 : decode cX12_dreamIn 1 = .ok (.istore_n 3, 1) := by decide +kernel
theorem dX12_dreamIn_2 : decode cX12_dreamIn 2 = .ok (.aload_n 0, 1) := by decide +kernel
theorem dX12_dreamIn_3 : decode cX12_dreamIn 3 = .ok (.getfield 358, 3) := by decide +kernel
theorem dX12_dreamIn_6 : decode cX12_dreamIn 6 = .ok (.getfield 247, 3) := by decide +kernel
theorem dX12_dreamIn_9 : decode cX12_dreamIn 9 = .ok (.iconst 1, 1) := by decide +kernel
theorem dX12_dreamIn_10 : decode cX12_dreamIn 10 = .ok (.isub, 1) := by decide +kernel
theorem dX12_dreamIn_11 : decode cX12_dreamIn 11 = .ok (.istore 4, 2) := by decide +kernel
theorem dX12_dreamIn_13 : decode cX12_dreamIn 13 = .ok (.iload 4, 2) := by decide +kernel
theorem dX12_dreamIn_15 : decode cX12_dreamIn 15 = .ok (.iload_n 2, 1) := by decide +kernel
theorem dX12_dreamIn_16 : decode cX12_dreamIn 16 = .ok (.if_icmp .le 19, 3) := by decide +kernel
theorem dX12_dreamIn_19 : decode cX12_dreamIn 19 = .ok (.iload_n 3, 1) := by decide +kernel
theorem dX12_dreamIn_20 : decode cX12_dreamIn 20 = .ok (.aload_n 0, 1) := by decide +kernel
theorem dX12_dreamIn_21 : decode cX12_dreamIn 21 = .ok (.getfield 358, 3) := by decide +kernel
theorem dX12_dreamIn_24 : decode cX12_dreamIn 24 = .ok (.getfield 325, 3) := by decide +kernel
theorem dX12_dreamIn_27 : decode cX12_dreamIn 27 = .ok (.idiv, 1) := by decide +kernel
theorem dX12_dreamIn_28 : decode cX12_dreamIn 28 = .ok (.istore_n 3, 1) := by decide +kernel
theorem dX12_dreamIn_29 : decode cX12_dreamIn 29 = .ok (.iinc 4 (-1), 3) := by decide +kernel
theorem dX12_dreamIn_32 : decode cX12_dreamIn 32 = .ok (.goto (-19), 3) := by decide +kernel
theorem dX12_dreamIn_35 : decode cX12_dreamIn 35 = .ok (.iload_n 3, 1) := by decide +kernel
theorem dX12_dreamIn_36 : decode cX12_dreamIn 36 = .ok (.aload_n 0, 1) := by decide +kernel
theorem dX12_dreamIn_37 : decode cX12_dreamIn 37 = .ok (.getfield 358, 3) := by decide +kernel
theorem dX12_dreamIn_40 : decode cX12_dreamIn 40 = .ok (.getfield 325, 3) := by decide +kernel
theorem dX12_dreamIn_43 : decode cX12_dreamIn 43 = .ok (.irem, 1) := by decide +kernel
theorem dX12_dreamIn_44 : decode cX12_dreamIn 44 = .ok (.ireturn, 1) := by decide +kernel
theorem dX12_fit_0 : decode cX12_fit 0 = .ok (.aload_n 0, 1) := by decide +kernel
theorem dX12_fit_1 : decode cX12_fit 1 = .ok (.iconst 0, 1) := by decide +kernel
theorem dX12_fit_2 : decode cX12_fit 2 = .ok (.putfield 71, 3) := by decide +kernel
theorem dX12_fit_5 : decode cX12_fit 5 = .ok (.aload_n 0, 1) := by decide +kernel
theorem dX12_fit_6 : decode cX12_fit 6 = .ok (.iload_n 3, 1) := by decide +kernel
theorem dX12_fit_7 : decode cX12_fit 7 = .ok (.invokevirtual 421, 3) := by decide +kernel
theorem dX12_fit_10 : decode cX12_fit 10 = .ok (.ifCond .ne 9, 3) := by decide +kernel
theorem dX12_fit_13 : decode cX12_fit 13 = .ok (.aload_n 0, 1) := by decide +kernel
theorem dX12_fit_14 : decode cX12_fit 14 = .ok (.iconst 1, 1) := by decide +kernel
theorem dX12_fit_15 : decode cX12_fit 15 = .ok (.invokevirtual 77, 3) := by decide +kernel
theorem dX12_fit_18 : decode cX12_fit 18 = .ok (.ireturn, 1) := by decide +kernel
theorem dX12_fit_19 : decode cX12_fit 19 = .ok (.iload_n 1, 1) := by decide +kernel
theorem dX12_fit_20 : decode cX12_fit 20 = .ok (.iconst 0, 1) := by decide +kernel
theorem dX12_fit_21 : decode cX12_fit 21 = .ok (.iconst 3, 1) := by decide +kernel
theorem dX12_fit_22 : decode cX12_fit 22 = .ok (.invokestatic 149, 3) := by decide +kernel
theorem dX12_fit_25 : decode cX12_fit 25 = .ok (.ifCond .ne 9, 3) := by decide +kernel
theorem dX12_fit_28 : decode cX12_fit 28 = .ok (.aload_n 0, 1) := by decide +kernel
theorem dX12_fit_29 : decode cX12_fit 29 = .ok (.iconst 2, 1) := by decide +kernel
theorem dX12_fit_30 : decode cX12_fit 30 = .ok (.invokevirtual 77, 3) := by decide +kernel
theorem dX12_fit_33 : decode cX12_fit 33 = .ok (.ireturn, 1) := by decide +kernel
theorem dX12_fit_34 : decode cX12_fit 34 = .ok (.aload_n 0, 1) := by decide +kernel
theorem dX12_fit_35 : decode cX12_fit 35 = .ok (.iload_n 1, 1) := by decide +kernel
theorem dX12_fit_36 : decode cX12_fit 36 = .ok (.invokevirtual 464, 3) := by decide +kernel
theorem dX12_fit_39 : decode cX12_fit 39 = .ok (.istore 4, 2) := by decide +kernel
theorem dX12_fit_41 : decode cX12_fit 41 = .ok (.iload_n 2, 1) := by decide +kernel
theorem dX12_fit_42 : decode cX12_fit 42 = .ok (.ifCond .lt 27, 3) := by decide +kernel
theorem dX12_fit_45 : decode cX12_fit 45 = .ok (.iload_n 2, 1) := by decide +kernel
theorem dX12_fit_46 : decode cX12_fit 46 = .ok (.iload 4, 2) := by decide +kernel
theorem dX12_fit_48 : decode cX12_fit 48 = .ok (.if_icmp .ge 21, 3) := by decide +kernel
theorem dX12_fit_51 : decode cX12_fit 51 = .ok (.aload_n 0, 1) := by decide +kernel
theorem dX12_fit_52 : decode cX12_fit 52 = .ok (.aload_n 0, 1) := by decide +kernel
theorem dX12_fit_53 : decode cX12_fit 53 = .ok (.aload_n 0, 1) := by decide +kernel
theorem dX12_fit_54 : decode cX12_fit 54 = .ok (.getfield 55, 3) := by decide +kernel
theorem dX12_fit_57 : decode cX12_fit 57 = .ok (.iload_n 2, 1) := by decide +kernel
theorem dX12_fit_58 : decode cX12_fit 58 = .ok (.iaload, 1) := by decide +kernel
theorem dX12_fit_59 : decode cX12_fit 59 = .ok (.iload_n 3, 1) := by decide +kernel
theorem dX12_fit_60 : decode cX12_fit 60 = .ok (.invokevirtual 467, 3) := by decide +kernel
theorem dX12_fit_63 : decode cX12_fit 63 = .ok (.invokevirtual 81, 3) := by decide +kernel
theorem dX12_fit_66 : decode cX12_fit 66 = .ok (.goto 8, 3) := by decide +kernel
theorem dX12_fit_69 : decode cX12_fit 69 = .ok (.aload_n 0, 1) := by decide +kernel
theorem dX12_fit_70 : decode cX12_fit 70 = .ok (.iconst 1, 1) := by decide +kernel
theorem dX12_fit_71 : decode cX12_fit 71 = .ok (.invokevirtual 77, 3) := by decide +kernel
theorem dX12_fit_74 : decode cX12_fit 74 = .ok (.ireturn, 1) := by decide +kernel
theorem dX12_sure_0 : decode cX12_sure 0 = .ok (.aload_n 0, 1) := by decide +kernel
theorem dX12_sure_1 : decode cX12_sure 1 = .ok (.iconst 0, 1) := by decide +kernel
theorem dX12_sure_2 : decode cX12_sure 2 = .ok (.putfield 71, 3) := by decide +kernel
theorem dX12_sure_5 : decode cX12_sure 5 = .ok (.aload_n 0, 1) := by decide +kernel
theorem dX12_sure_6 : decode cX12_sure 6 = .ok (.iload_n 1, 1) := by decide +kernel
theorem dX12_sure_7 : decode cX12_sure 7 = .ok (.invokevirtual 421, 3) := by decide +kernel
theorem dX12_sure_10 : decode cX12_sure 10 = .ok (.ifCond .ne 9, 3) := by decide +kernel
theorem dX12_sure_13 : decode cX12_sure 13 = .ok (.aload_n 0, 1) := by decide +kernel
theorem dX12_sure_14 : decode cX12_sure 14 = .ok (.iconst 1, 1) := by decide +kernel
theorem dX12_sure_15 : decode cX12_sure 15 = .ok (.invokevirtual 77, 3) := by decide +kernel
theorem dX12_sure_18 : decode cX12_sure 18 = .ok (.ireturn, 1) := by decide +kernel
theorem dX12_sure_19 : decode cX12_sure 19 = .ok (.aload_n 0, 1) := by decide +kernel
theorem dX12_sure_20 : decode cX12_sure 20 = .ok (.iconst 3, 1) := by decide +kernel
theorem dX12_sure_21 : decode cX12_sure 21 = .ok (.invokevirtual 464, 3) := by decide +kernel
theorem dX12_sure_24 : decode cX12_sure 24 = .ok (.istore_n 2, 1) := by decide +kernel
theorem dX12_sure_25 : decode cX12_sure 25 = .ok (.iload_n 2, 1) := by decide +kernel
theorem dX12_sure_26 : decode cX12_sure 26 = .ok (.ifCond .ne 10, 3) := by decide +kernel
theorem dX12_sure_29 : decode cX12_sure 29 = .ok (.aload_n 0, 1) := by decide +kernel
theorem dX12_sure_30 : decode cX12_sure 30 = .ok (.bipush 6, 2) := by decide +kernel
theorem dX12_sure_32 : decode cX12_sure 32 = .ok (.invokevirtual 77, 3) := by decide +kernel
theorem dX12_sure_35 : decode cX12_sure 35 = .ok (.ireturn, 1) := by decide +kernel
theorem dX12_sure_36 : decode cX12_sure 36 = .ok (.aload_n 0, 1) := by decide +kernel
theorem dX12_sure_37 : decode cX12_sure 37 = .ok (.aload_n 0, 1) := by decide +kernel
theorem dX12_sure_38 : decode cX12_sure 38 = .ok (.getfield 55, 3) := by decide +kernel
theorem dX12_sure_41 : decode cX12_sure 41 = .ok (.iconst 0, 1) := by decide +kernel
theorem dX12_sure_42 : decode cX12_sure 42 = .ok (.iaload, 1) := by decide +kernel
theorem dX12_sure_43 : decode cX12_sure 43 = .ok (.iload_n 1, 1) := by decide +kernel
theorem dX12_sure_44 : decode cX12_sure 44 = .ok (.invokevirtual 467, 3) := by decide +kernel
theorem dX12_sure_47 : decode cX12_sure 47 = .ok (.istore_n 3, 1) := by decide +kernel
theorem dX12_sure_48 : decode cX12_sure 48 = .ok (.iconst 1, 1) := by decide +kernel
theorem dX12_sure_49 : decode cX12_sure 49 = .ok (.istore 4, 2) := by decide +kernel
theorem dX12_sure_51 : decode cX12_sure 51 = .ok (.iload 4, 2) := by decide +kernel
theorem dX12_sure_53 : decode cX12_sure 53 = .ok (.iload_n 2, 1) := by decide +kernel
theorem dX12_sure_54 : decode cX12_sure 54 = .ok (.if_icmp .ge 32, 3) := by decide +kernel
theorem dX12_sure_57 : decode cX12_sure 57 = .ok (.aload_n 0, 1) := by decide +kernel
theorem dX12_sure_58 : decode cX12_sure 58 = .ok (.aload_n 0, 1) := by decide +kernel
theorem dX12_sure_59 : decode cX12_sure 59 = .ok (.getfield 55, 3) := by decide +kernel
theorem dX12_sure_62 : decode cX12_sure 62 = .ok (.iload 4, 2) := by decide +kernel
theorem dX12_sure_64 : decode cX12_sure 64 = .ok (.iaload, 1) := by decide +kernel
theorem dX12_sure_65 : decode cX12_sure 65 = .ok (.iload_n 1, 1) := by decide +kernel
theorem dX12_sure_66 : decode cX12_sure 66 = .ok (.invokevirtual 467, 3) := by decide +kernel
theorem dX12_sure_69 : decode cX12_sure 69 = .ok (.iload_n 3, 1) := by decide +kernel
theorem dX12_sure_70 : decode cX12_sure 70 = .ok (.if_icmp .eq 10, 3) := by decide +kernel
theorem dX12_sure_73 : decode cX12_sure 73 = .ok (.aload_n 0, 1) := by decide +kernel
theorem dX12_sure_74 : decode cX12_sure 74 = .ok (.bipush (-2), 2) := by decide +kernel
theorem dX12_sure_76 : decode cX12_sure 76 = .ok (.invokevirtual 81, 3) := by decide +kernel
theorem dX12_sure_79 : decode cX12_sure 79 = .ok (.ireturn, 1) := by decide +kernel
theorem dX12_sure_80 : decode cX12_sure 80 = .ok (.iinc 4 1, 3) := by decide +kernel
theorem dX12_sure_83 : decode cX12_sure 83 = .ok (.goto (-32), 3) := by decide +kernel
theorem dX12_sure_86 : decode cX12_sure 86 = .ok (.aload_n 0, 1) := by decide +kernel
theorem dX12_sure_87 : decode cX12_sure 87 = .ok (.iload_n 3, 1) := by decide +kernel
theorem dX12_sure_88 : decode cX12_sure 88 = .ok (.invokevirtual 81, 3) := by decide +kernel
theorem dX12_sure_91 : decode cX12_sure 91 = .ok (.ireturn, 1) := by decide +kernel
theorem dX12_verdict_0 : decode cX12_verdict 0 = .ok (.aload_n 0, 1) := by decide +kernel
theorem dX12_verdict_1 : decode cX12_verdict 1 = .ok (.iconst 0, 1) := by decide +kernel
theorem dX12_verdict_2 : decode cX12_verdict 2 = .ok (.putfield 71, 3) := by decide +kernel
theorem dX12_verdict_5 : decode cX12_verdict 5 = .ok (.aload_n 0, 1) := by decide +kernel
theorem dX12_verdict_6 : decode cX12_verdict 6 = .ok (.getfield 358, 3) := by decide +kernel
theorem dX12_verdict_9 : decode cX12_verdict 9 = .ok (.ifnonnull 9, 3) := by decide +kernel
theorem dX12_verdict_18 : decode cX12_verdict 18 = .ok (.aload_n 0, 1) := by decide +kernel
theorem dX12_verdict_19 : decode cX12_verdict 19 = .ok (.iconst 3, 1) := by decide +kernel
theorem dX12_verdict_20 : decode cX12_verdict 20 = .ok (.invokevirtual 464, 3) := by decide +kernel
theorem dX12_verdict_23 : decode cX12_verdict 23 = .ok (.ifCond .le 9, 3) := by decide +kernel
theorem dX12_verdict_26 : decode cX12_verdict 26 = .ok (.aload_n 0, 1) := by decide +kernel
theorem dX12_verdict_27 : decode cX12_verdict 27 = .ok (.iconst 0, 1) := by decide +kernel
theorem dX12_verdict_28 : decode cX12_verdict 28 = .ok (.invokevirtual 81, 3) := by decide +kernel
theorem dX12_verdict_31 : decode cX12_verdict 31 = .ok (.ireturn, 1) := by decide +kernel
theorem dX12_verdict_32 : decode cX12_verdict 32 = .ok (.aload_n 0, 1) := by decide +kernel
theorem dX12_verdict_33 : decode cX12_verdict 33 = .ok (.iconst 1, 1) := by decide +kernel
theorem dX12_verdict_34 : decode cX12_verdict 34 = .ok (.invokevirtual 464, 3) := by decide +kernel
theorem dX12_verdict_37 : decode cX12_verdict 37 = .ok (.istore_n 1, 1) := by decide +kernel
theorem dX12_verdict_38 : decode cX12_verdict 38 = .ok (.aload_n 0, 1) := by decide +kernel
theorem dX12_verdict_39 : decode cX12_verdict 39 = .ok (.iconst 2, 1) := by decide +kernel
theorem dX12_verdict_40 : decode cX12_verdict 40 = .ok (.invokevirtual 464, 3) := by decide +kernel
theorem dX12_verdict_43 : decode cX12_verdict 43 = .ok (.istore_n 2, 1) := by decide +kernel
theorem dX12_verdict_44 : decode cX12_verdict 44 = .ok (.aload_n 0, 1) := by decide +kernel
theorem dX12_verdict_45 : decode cX12_verdict 45 = .ok (.iload_n 1, 1) := by decide +kernel
theorem dX12_verdict_46 : decode cX12_verdict 46 = .ok (.ifCond .le 15, 3) := by decide +kernel
theorem dX12_verdict_49 : decode cX12_verdict 49 = .ok (.iload_n 2, 1) := by decide +kernel
theorem dX12_verdict_50 : decode cX12_verdict 50 = .ok (.ifCond .le 7, 3) := by decide +kernel
theorem dX12_verdict_53 : decode cX12_verdict 53 = .ok (.iconst 3, 1) := by decide +kernel
theorem dX12_verdict_54 : decode cX12_verdict 54 = .ok (.goto 16, 3) := by decide +kernel
theorem dX12_verdict_57 : decode cX12_verdict 57 = .ok (.iconst 1, 1) := by decide +kernel
theorem dX12_verdict_58 : decode cX12_verdict 58 = .ok (.goto 12, 3) := by decide +kernel
theorem dX12_verdict_61 : decode cX12_verdict 61 = .ok (.iload_n 2, 1) := by decide +kernel
theorem dX12_verdict_62 : decode cX12_verdict 62 = .ok (.ifCond .le 7, 3) := by decide +kernel
theorem dX12_verdict_65 : decode cX12_verdict 65 = .ok (.iconst 2, 1) := by decide +kernel
theorem dX12_verdict_66 : decode cX12_verdict 66 = .ok (.goto 4, 3) := by decide +kernel
theorem dX12_verdict_69 : decode cX12_verdict 69 = .ok (.iconst 4, 1) := by decide +kernel
theorem dX12_verdict_70 : decode cX12_verdict 70 = .ok (.invokevirtual 81, 3) := by decide +kernel
theorem dX12_verdict_73 : decode cX12_verdict 73 = .ok (.ireturn, 1) := by decide +kernel
theorem dX12_verdict_12 : decode cX12_verdict 12 = .ok (.aload_n 0, 1) := by decide +kernel
theorem dX12_verdict_13 : decode cX12_verdict 13 = .ok (.iconst 1, 1) := by decide +kernel
theorem dX12_verdict_14 : decode cX12_verdict 14 = .ok (.invokevirtual 77, 3) := by decide +kernel
theorem dX12_verdict_17 : decode cX12_verdict 17 = .ok (.ireturn, 1) := by decide +kernel
theorem dX12_dawns_0 : decode cX12_dawns 0 = .ok (.aload_n 0, 1) := by decide +kernel
theorem dX12_dawns_1 : decode cX12_dawns 1 = .ok (.iload_n 1, 1) := by decide +kernel
theorem dX12_dawns_2 : decode cX12_dawns 2 = .ok (.invokevirtual 455, 3) := by decide +kernel
theorem dX12_dawns_5 : decode cX12_dawns 5 = .ok (.aload_n 0, 1) := by decide +kernel
theorem dX12_dawns_6 : decode cX12_dawns 6 = .ok (.iload_n 2, 1) := by decide +kernel
theorem dX12_dawns_7 : decode cX12_dawns 7 = .ok (.bipush 40, 2) := by decide +kernel
theorem dX12_dawns_9 : decode cX12_dawns 9 = .ok (.invokevirtual 442, 3) := by decide +kernel
theorem dX12_dawns_12 : decode cX12_dawns 12 = .ok (.iload_n 3, 1) := by decide +kernel
theorem dX12_dawns_13 : decode cX12_dawns 13 = .ok (.bipush 30, 2) := by decide +kernel
theorem dX12_dawns_15 : decode cX12_dawns 15 = .ok (.imul, 1) := by decide +kernel
theorem dX12_dawns_16 : decode cX12_dawns 16 = .ok (.istore 4, 2) := by decide +kernel
theorem dX12_dawns_18 : decode cX12_dawns 18 = .ok (.iconst 0, 1) := by decide +kernel
theorem dX12_dawns_19 : decode cX12_dawns 19 = .ok (.istore 5, 2) := by decide +kernel
theorem dX12_dawns_21 : decode cX12_dawns 21 = .ok (.iload 5, 2) := by decide +kernel
theorem dX12_dawns_23 : decode cX12_dawns 23 = .ok (.bipush 6, 2) := by decide +kernel
theorem dX12_dawns_25 : decode cX12_dawns 25 = .ok (.if_icmp .ge 29, 3) := by decide +kernel
theorem dX12_dawns_28 : decode cX12_dawns 28 = .ok (.aload_n 0, 1) := by decide +kernel
theorem dX12_dawns_29 : decode cX12_dawns 29 = .ok (.getfield 58, 3) := by decide +kernel
theorem dX12_dawns_32 : decode cX12_dawns 32 = .ok (.iload 4, 2) := by decide +kernel
theorem dX12_dawns_34 : decode cX12_dawns 34 = .ok (.aload_n 0, 1) := by decide +kernel
theorem dX12_dawns_35 : decode cX12_dawns 35 = .ok (.getfield 36, 3) := by decide +kernel
theorem dX12_dawns_38 : decode cX12_dawns 38 = .ok (.bipush 43, 2) := by decide +kernel
theorem dX12_dawns_40 : decode cX12_dawns 40 = .ok (.iload 5, 2) := by decide +kernel
theorem dX12_dawns_42 : decode cX12_dawns 42 = .ok (.iadd, 1) := by decide +kernel
theorem dX12_dawns_43 : decode cX12_dawns 43 = .ok (.iaload, 1) := by decide +kernel
theorem dX12_dawns_44 : decode cX12_dawns 44 = .ok (.iastore, 1) := by decide +kernel
theorem dX12_dawns_45 : decode cX12_dawns 45 = .ok (.iinc 5 1, 3) := by decide +kernel
theorem dX12_dawns_48 : decode cX12_dawns 48 = .ok (.iinc 4 1, 3) := by decide +kernel
theorem dX12_dawns_51 : decode cX12_dawns 51 = .ok (.goto (-30), 3) := by decide +kernel
theorem dX12_dawns_54 : decode cX12_dawns 54 = .ok (.iconst 0, 1) := by decide +kernel
theorem dX12_dawns_55 : decode cX12_dawns 55 = .ok (.istore 5, 2) := by decide +kernel
theorem dX12_dawns_57 : decode cX12_dawns 57 = .ok (.iload 5, 2) := by decide +kernel
theorem dX12_dawns_59 : decode cX12_dawns 59 = .ok (.bipush 8, 2) := by decide +kernel
theorem dX12_dawns_61 : decode cX12_dawns 61 = .ok (.if_icmp .ge 29, 3) := by decide +kernel
theorem dX12_dawns_64 : decode cX12_dawns 64 = .ok (.aload_n 0, 1) := by decide +kernel
theorem dX12_dawns_65 : decode cX12_dawns 65 = .ok (.getfield 58, 3) := by decide +kernel
theorem dX12_dawns_68 : decode cX12_dawns 68 = .ok (.iload 4, 2) := by decide +kernel
theorem dX12_dawns_70 : decode cX12_dawns 70 = .ok (.aload_n 0, 1) := by decide +kernel
theorem dX12_dawns_71 : decode cX12_dawns 71 = .ok (.getfield 36, 3) := by decide +kernel
theorem dX12_dawns_74 : decode cX12_dawns 74 = .ok (.bipush 15, 2) := by decide +kernel
theorem dX12_dawns_76 : decode cX12_dawns 76 = .ok (.iload 5, 2) := by decide +kernel
theorem dX12_dawns_78 : decode cX12_dawns 78 = .ok (.iadd, 1) := by decide +kernel
theorem dX12_dawns_79 : decode cX12_dawns 79 = .ok (.iaload, 1) := by decide +kernel
theorem dX12_dawns_80 : decode cX12_dawns 80 = .ok (.iastore, 1) := by decide +kernel
theorem dX12_dawns_81 : decode cX12_dawns 81 = .ok (.iinc 5 1, 3) := by decide +kernel
theorem dX12_dawns_84 : decode cX12_dawns 84 = .ok (.iinc 4 1, 3) := by decide +kernel
theorem dX12_dawns_87 : decode cX12_dawns 87 = .ok (.goto (-30), 3) := by decide +kernel
theorem dX12_dawns_90 : decode cX12_dawns 90 = .ok (.iconst 0, 1) := by decide +kernel
theorem dX12_dawns_91 : decode cX12_dawns 91 = .ok (.istore 5, 2) := by decide +kernel
theorem dX12_dawns_93 : decode cX12_dawns 93 = .ok (.iload 5, 2) := by decide +kernel
theorem dX12_dawns_95 : decode cX12_dawns 95 = .ok (.bipush 10, 2) := by decide +kernel
theorem dX12_dawns_97 : decode cX12_dawns 97 = .ok (.if_icmp .ge 29, 3) := by decide +kernel
theorem dX12_dawns_100 : decode cX12_dawns 100 = .ok (.aload_n 0, 1) := by decide +kernel
theorem dX12_dawns_101 : decode cX12_dawns 101 = .ok (.getfield 58, 3) := by decide +kernel
theorem dX12_dawns_104 : decode cX12_dawns 104 = .ok (.iload 4, 2) := by decide +kernel
theorem dX12_dawns_106 : decode cX12_dawns 106 = .ok (.aload_n 0, 1) := by decide +kernel
theorem dX12_dawns_107 : decode cX12_dawns 107 = .ok (.getfield 36, 3) := by decide +kernel
theorem dX12_dawns_110 : decode cX12_dawns 110 = .ok (.bipush 23, 2) := by decide +kernel
theorem dX12_dawns_112 : decode cX12_dawns 112 = .ok (.iload 5, 2) := by decide +kernel
theorem dX12_dawns_114 : decode cX12_dawns 114 = .ok (.iadd, 1) := by decide +kernel
theorem dX12_dawns_115 : decode cX12_dawns 115 = .ok (.iaload, 1) := by decide +kernel
theorem dX12_dawns_116 : decode cX12_dawns 116 = .ok (.iastore, 1) := by decide +kernel
theorem dX12_dawns_117 : decode cX12_dawns 117 = .ok (.iinc 5 1, 3) := by decide +kernel
theorem dX12_dawns_120 : decode cX12_dawns 120 = .ok (.iinc 4 1, 3) := by decide +kernel
theorem dX12_dawns_123 : decode cX12_dawns 123 = .ok (.goto (-30), 3) := by decide +kernel
theorem dX12_dawns_126 : decode cX12_dawns 126 = .ok (.iconst 0, 1) := by decide +kernel
theorem dX12_dawns_127 : decode cX12_dawns 127 = .ok (.istore 5, 2) := by decide +kernel
theorem dX12_dawns_129 : decode cX12_dawns 129 = .ok (.iload 5, 2) := by decide +kernel
theorem dX12_dawns_131 : decode cX12_dawns 131 = .ok (.iconst 3, 1) := by decide +kernel
theorem dX12_dawns_132 : decode cX12_dawns 132 = .ok (.if_icmp .ge 28, 3) := by decide +kernel
theorem dX12_dawns_135 : decode cX12_dawns 135 = .ok (.aload_n 0, 1) := by decide +kernel
theorem dX12_dawns_136 : decode cX12_dawns 136 = .ok (.getfield 58, 3) := by decide +kernel
theorem dX12_dawns_139 : decode cX12_dawns 139 = .ok (.iload 4, 2) := by decide +kernel
theorem dX12_dawns_141 : decode cX12_dawns 141 = .ok (.aload_n 0, 1) := by decide +kernel
theorem dX12_dawns_142 : decode cX12_dawns 142 = .ok (.getfield 36, 3) := by decide +kernel
theorem dX12_dawns_145 : decode cX12_dawns 145 = .ok (.iconst 0, 1) := by decide +kernel
theorem dX12_dawns_146 : decode cX12_dawns 146 = .ok (.iload 5, 2) := by decide +kernel
theorem dX12_dawns_148 : decode cX12_dawns 148 = .ok (.iadd, 1) := by decide +kernel
theorem dX12_dawns_149 : decode cX12_dawns 149 = .ok (.iaload, 1) := by decide +kernel
theorem dX12_dawns_150 : decode cX12_dawns 150 = .ok (.iastore, 1) := by decide +kernel
theorem dX12_dawns_151 : decode cX12_dawns 151 = .ok (.iinc 5 1, 3) := by decide +kernel
theorem dX12_dawns_154 : decode cX12_dawns 154 = .ok (.iinc 4 1, 3) := by decide +kernel
theorem dX12_dawns_157 : decode cX12_dawns 157 = .ok (.goto (-28), 3) := by decide +kernel
theorem dX12_dawns_160 : decode cX12_dawns 160 = .ok (.iconst 0, 1) := by decide +kernel
theorem dX12_dawns_161 : decode cX12_dawns 161 = .ok (.istore 5, 2) := by decide +kernel
theorem dX12_dawns_163 : decode cX12_dawns 163 = .ok (.iload 5, 2) := by decide +kernel
theorem dX12_dawns_165 : decode cX12_dawns 165 = .ok (.iconst 3, 1) := by decide +kernel
theorem dX12_dawns_166 : decode cX12_dawns 166 = .ok (.if_icmp .ge 29, 3) := by decide +kernel
theorem dX12_dawns_169 : decode cX12_dawns 169 = .ok (.aload_n 0, 1) := by decide +kernel
theorem dX12_dawns_170 : decode cX12_dawns 170 = .ok (.getfield 58, 3) := by decide +kernel
theorem dX12_dawns_173 : decode cX12_dawns 173 = .ok (.iload 4, 2) := by decide +kernel
theorem dX12_dawns_175 : decode cX12_dawns 175 = .ok (.aload_n 0, 1) := by decide +kernel
theorem dX12_dawns_176 : decode cX12_dawns 176 = .ok (.getfield 36, 3) := by decide +kernel
theorem dX12_dawns_179 : decode cX12_dawns 179 = .ok (.bipush 9, 2) := by decide +kernel
theorem dX12_dawns_181 : decode cX12_dawns 181 = .ok (.iload 5, 2) := by decide +kernel
theorem dX12_dawns_183 : decode cX12_dawns 183 = .ok (.iadd, 1) := by decide +kernel
theorem dX12_dawns_184 : decode cX12_dawns 184 = .ok (.iaload, 1) := by decide +kernel
theorem dX12_dawns_185 : decode cX12_dawns 185 = .ok (.iastore, 1) := by decide +kernel
theorem dX12_dawns_186 : decode cX12_dawns 186 = .ok (.iinc 5 1, 3) := by decide +kernel
theorem dX12_dawns_189 : decode cX12_dawns 189 = .ok (.iinc 4 1, 3) := by decide +kernel
theorem dX12_dawns_192 : decode cX12_dawns 192 = .ok (.goto (-29), 3) := by decide +kernel
theorem dX12_dawns_195 : decode cX12_dawns 195 = .ok (.return_, 1) := by decide +kernel
def wX12_back (E : EN) (h h_inn h_tape h_far h_from h_real h_other h_kept h_set h_w h_book h_noteSort h_whose h_what h_noteIs h_fitting h_dawn h_likes h_walked h_came : Nat) (v_thrown : Int32) (v_trouble : Int32) (v_where : Int32) (v_read : Option Nat) (v_taped : Int32) (v_size : Int32) (v_at : Int32) (v_sort : Int32) (v_place : Int32) (v_sign : Int32) (v_number : Int32) (v_fault : Int32) (v_wrongAt : Int32) (v_word : Int64) (v_marks : Int32) (v_notes : Int32) (v_kept : Nat → Int32) (v_w : Nat → Int32) : va_W := [(h, .inr (11, [.int v_thrown, .int v_trouble, .int v_where, .ref h_inn, va_rf v_read, .ref h_tape, .int v_taped, .int v_size, .int v_at, .int v_sort, .int v_place, .int v_sign, .int v_number, .int v_fault, .int v_wrongAt, .long v_word, .ref h_far, .ref h_from, .ref h_real, .ref h_other, .ref h_kept, .ref h_set, .ref h_w, .int v_marks, .int v_notes, .ref h_book, .ref h_noteSort, .ref h_whose, .ref h_what, .ref h_noteIs, .ref h_fitting, .ref h_dawn, .ref h_likes, .ref h_walked, .ref h_came])), (h_kept, aI E 153 v_kept), (h_w, aI E 51 v_w)]
def BX12_back_32 (N : Nat) (p0 : Int32) (v_kept : Nat → Int32) (rec32 : (Int32 × (Nat → Int32)) → Option (Int32 × Int32 × Int32 × Int32 × (Nat → Int32))) : (Int32 × (Nat → Int32)) → Option (Int32 × Int32 × Int32 × Int32 × (Nat → Int32)) := un2 fun (x32_2 : Int32) (x32_w : Nat → Int32) => if 51 ≤ x32_2 then ((fX12_granted N).bind (un3 fun (r_62 : Int32) (v_trouble_62 : Int32) (v_where_62 : Int32) => zg r_62 (some (r_62, 0, v_trouble_62, v_where_62, x32_w)))) else (gd ((51 * p0) + x32_2) 153 (gd x32_2 51 (rec32 (x32_2 + 1, upd x32_w x32_2.toNatClampNeg (v_kept ((51 * p0) + x32_2).toNatClampNeg)))))
def fX12_back (N : Nat) (p0 : Int32) (v_marks : Int32) (v_kept : Nat → Int32) (v_w : Nat → Int32) : Option (Int32 × Int32 × Int32 × Int32 × (Nat → Int32)) := if p0 < 0 then ((fX12_denied N 1).bind (un3 fun (r_26 : Int32) (v_trouble_26 : Int32) (v_where_26 : Int32) => zg r_26 (some (r_26, 0, v_trouble_26, v_where_26, v_w)))) else (if p0 < v_marks then (lp (BX12_back_32 N p0 v_kept) N (0, v_w)) else ((fX12_denied N 1).bind (un3 fun (r_26 : Int32) (v_trouble_26 : Int32) (v_where_26 : Int32) => zg r_26 (some (r_26, 0, v_trouble_26, v_where_26, v_w)))))
set_option maxHeartbeats 4000000 in
set_option maxRecDepth 100000 in
theorem ctX12_back (l : Launch) (E : EN) (h h_inn h_tape h_far h_from h_real h_other h_kept h_set h_w h_book h_noteSort h_whose h_what h_noteIs h_fitting h_dawn h_likes h_walked h_came : Nat) (v_thrown : Int32) (v_trouble : Int32) (v_where : Int32) (v_read : Option Nat) (v_taped : Int32) (v_size : Int32) (v_at : Int32) (v_sort : Int32) (v_place : Int32) (v_sign : Int32) (v_number : Int32) (v_fault : Int32) (v_wrongAt : Int32) (v_word : Int64) (v_marks : Int32) (v_notes : Int32) (v_kept : Nat → Int32) (v_w : Nat → Int32) (N : Nat) (p0 : Int32) (z : Int32 × Int32 × Int32 × Int32 × (Nat → Int32)) (hf : fX12_back N p0 v_marks v_kept v_w = some z) : CTi l E yX12_back cX12_back 3 .boolean 2 42 [.ref h, .int p0] (wX12_back E h h_inn h_tape h_far h_from h_real h_other h_kept h_set h_w h_book h_noteSort h_whose h_what h_noteIs h_fitting h_dawn h_likes h_walked h_came v_thrown v_trouble v_where v_read v_taped v_size v_at v_sort v_place v_sign v_number v_fault v_wrongAt v_word v_marks v_notes v_kept v_w) (z.1) (wX12_back E h h_inn h_tape h_far h_from h_real h_other h_kept h_set h_w h_book h_noteSort h_whose h_what h_noteIs h_fitting h_dawn h_likes h_walked h_came z.2.1 z.2.2.1 z.2.2.2.1 v_read v_taped v_size v_at v_sort v_place v_sign v_number v_fault v_wrongAt v_word v_marks v_notes v_kept z.2.2.2.2) := by
  intro sz
  refine ct_body (by decide) (Nat.le_of_ble_eq_true rfl) ?_
  intro p e s m args below meth c A ls hAe C hr hin hP hD hS hl
  have C : CX p s m args meth c cX12_back RX12 3 E A := C
  have hl : lv_has ls 3 [(0, .ref h), (1, .int p0)] := hl
  have hx := C.1
  have hb := C.2.1
  rw [hAe]
  clear hAe
  obtain ⟨Q, hQ⟩ : ∃ Q, Q = MQ below (Qi E A (z.1) (wX12_back E h h_inn h_tape h_far h_from h_real h_other h_kept h_set h_w h_book h_noteSort h_whose h_what h_noteIs h_fitting h_dawn h_likes h_walked h_came z.2.1 z.2.2.1 z.2.2.2.1 v_read v_taped v_size v_at v_sort v_place v_sign v_number v_fault v_wrongAt v_word v_marks v_notes v_kept z.2.2.2.2)) args s 0 0 A := ⟨_, rfl⟩
  rw [← hQ]
  unfold fX12_back at hf
  refine lv_aload_n (pc := 0) hx hb dX12_back_0 rfl (lv_at hl 0 rfl) ?_
  refine lv_iconst (pc := 1) (v := 0) hx hb dX12_back_1 (by decide) ?_
  refine r_put (pc := 2) (ws' := (wX12_back E h h_inn h_tape h_far h_from h_real h_other h_kept h_set h_w h_book h_noteSort h_whose h_what h_noteIs h_fitting h_dawn h_likes h_walked h_came 0 v_trouble v_where v_read v_taped v_size v_at v_sort v_place v_sign v_number v_fault v_wrongAt v_word v_marks v_notes v_kept v_w)) C hP hD hS 0 rfl fl_X12_71 rfl rfl (Nat.le_of_ble_eq_true rfl) rfl dX12_back_2 ?_
  clear hP hD hS; intro H locs hP hD hS
  refine lv_aload_n (pc := 5) hx hb dX12_back_5 rfl (lv_at hl 0 rfl) ?_
  refine r_get (pc := 6) C hP 0 rfl fl_X12_358 rfl dX12_back_6 ?_
  refine lv_ifnull (pc := 9) hx hb dX12_back_9 ?_
  refine lv_iload_n (pc := 12) hx hb dX12_back_12 rfl (lv_at hl 1 rfl) ?_
  refine lv_if_lt (pc := 13) (tgt := 24) hx hb dX12_back_13 (by decide) (fun c_13 => ?_) (fun c_13 => ?_)
  · replace hf := it_t c_13 hf
    refine lv_aload_n (pc := 24) hx hb dX12_back_24 rfl (lv_at hl 0 rfl) ?_
    refine lv_iconst (pc := 25) (v := 1) hx hb dX12_back_25 (by decide) ?_
    obtain ⟨r_26, v_trouble_26, v_where_26, hc_26, hf⟩ := bd3 hf
    refine r_dalVi (pc := 26) (ws' := (wX12_back E h h_inn h_tape h_far h_from h_real h_other h_kept h_set h_w h_book h_noteSort h_whose h_what h_noteIs h_fitting h_dawn h_likes h_walked h_came 0 v_trouble_26 v_where_26 v_read v_taped v_size v_at v_sort v_place v_sign v_number v_fault v_wrongAt v_word v_marks v_notes v_kept v_w)) (As := [.int 1]) (rest := []) C (ctX12_denied l E h h_tape h_far h_from h_real h_other h_kept h_set h_w h_book h_noteSort h_whose h_what h_noteIs h_fitting h_dawn h_likes h_walked h_came 0 v_trouble v_where (some h_inn) v_read v_taped v_size v_at v_sort v_place v_sign v_number v_fault v_wrongAt v_word v_marks v_notes N 1 (r_26, v_trouble_26, v_where_26) hc_26) ml_X12_415 ⟨Nat.le_of_ble_eq_true rfl, Nat.le_of_ble_eq_true rfl⟩ hP hD hS 0 rfl rfl rfl [0] [3, 1, 2] 3 rfl rfl rfl rfl rfl rfl rfl hl.1 rfl (Nat.le_of_ble_eq_true rfl) ⟨Nat.zero_le _, Nat.zero_le _⟩ dX12_back_26 ?_
    clear hP hD hS; intro H locs hP hD hS
    obtain ⟨hz_29, hf⟩ := zg_s hf
    cases hf
    rw [hQ]
    exact r_zret C hr hP hD hS hz_29 rfl dX12_back_29
  · replace hf := it_f c_13 hf
    refine lv_iload_n (pc := 16) hx hb dX12_back_16 rfl (lv_at hl 1 rfl) ?_
    refine lv_aload_n (pc := 17) hx hb dX12_back_17 rfl (lv_at hl 0 rfl) ?_
    refine r_get (pc := 18) C hP 0 rfl fl_X12_363 rfl dX12_back_18 ?_
    refine lv_icmp_lt (pc := 21) (tgt := 30) hx hb dX12_back_21 (by decide) (fun c_21 => ?_) (fun c_21 => ?_)
    · replace hf := it_t c_21 hf
      refine lv_iconst (pc := 30) (v := 0) hx hb dX12_back_30 (by decide) ?_
      refine lv_istore_n (pc := 31) (lv' := [(2, .int 0), (0, .ref h), (1, .int p0)]) hx hb dX12_back_31 rfl hl (by decide) rfl (fun ls hl => ?_)
      have key32 : ∀ (n : Nat) (x32_2 : Int32) (x32_w : Nat → Int32) , lp (BX12_back_32 N p0 v_kept) n (x32_2, x32_w) = some z → AT p l e (rmOf 2 42) s m args below meth c E A Q 0 0 3 [(0, .ref h), (1, .int p0), (2, .int x32_2)] (wX12_back E h h_inn h_tape h_far h_from h_real h_other h_kept h_set h_w h_book h_noteSort h_whose h_what h_noteIs h_fitting h_dawn h_likes h_walked h_came 0 v_trouble v_where v_read v_taped v_size v_at v_sort v_place v_sign v_number v_fault v_wrongAt v_word v_marks v_notes v_kept x32_w) 32 [] := by
        intro n
        induction n with
        | zero => intro x32_2 x32_w hf; exact (lp_0 hf).elim
        | succ n ih32 =>
          intro x32_2 x32_w hf H locs ls hl hP hD hS
          replace hf := lp_s hf
          generalize lp (BX12_back_32 N p0 v_kept) n = rec32 at ih32 hf
          unfold BX12_back_32 at hf
          replace hf := un2_s hf
          refine lv_iload_n (pc := 32) hx hb dX12_back_32 rfl (lv_at hl 2 rfl) ?_
          refine lv_bipush (pc := 33) (v := 51) hx hb dX12_back_33 (by decide) ?_
          refine lv_icmp_ge (pc := 35) (tgt := 61) hx hb dX12_back_35 (by decide) (fun c_35 => ?_) (fun c_35 => ?_)
          · replace hf := it_t c_35 hf
            refine lv_aload_n (pc := 61) hx hb dX12_back_61 rfl (lv_at hl 0 rfl) ?_
            obtain ⟨r_62, v_trouble_62, v_where_62, hc_62, hf⟩ := bd3 hf
            refine r_dalVi (pc := 62) (ws' := (wX12_back E h h_inn h_tape h_far h_from h_real h_other h_kept h_set h_w h_book h_noteSort h_whose h_what h_noteIs h_fitting h_dawn h_likes h_walked h_came 0 v_trouble_62 v_where_62 v_read v_taped v_size v_at v_sort v_place v_sign v_number v_fault v_wrongAt v_word v_marks v_notes v_kept x32_w)) (As := []) (rest := []) C (ctX12_granted l E h h_tape h_far h_from h_real h_other h_kept h_set h_w h_book h_noteSort h_whose h_what h_noteIs h_fitting h_dawn h_likes h_walked h_came 0 v_trouble v_where (some h_inn) v_read v_taped v_size v_at v_sort v_place v_sign v_number v_fault v_wrongAt v_word v_marks v_notes N (r_62, v_trouble_62, v_where_62) hc_62) ml_X12_418 ⟨Nat.le_of_ble_eq_true rfl, Nat.le_of_ble_eq_true rfl⟩ hP hD hS 0 rfl rfl rfl [0] [3, 1, 2] 3 rfl rfl rfl rfl rfl rfl rfl hl.1 rfl (Nat.le_of_ble_eq_true rfl) ⟨Nat.zero_le _, Nat.zero_le _⟩ dX12_back_62 ?_
            clear hP hD hS; intro H locs hP hD hS
            obtain ⟨hz_65, hf⟩ := zg_s hf
            cases hf
            rw [hQ]
            exact r_zret C hr hP hD hS hz_65 rfl dX12_back_65
          · replace hf := it_f c_35 hf
            refine lv_aload_n (pc := 38) hx hb dX12_back_38 rfl (lv_at hl 0 rfl) ?_
            refine r_get (pc := 39) C hP 0 rfl fl_X12_36 rfl dX12_back_39 ?_
            refine lv_iload_n (pc := 42) hx hb dX12_back_42 rfl (lv_at hl 2 rfl) ?_
            refine lv_aload_n (pc := 43) hx hb dX12_back_43 rfl (lv_at hl 0 rfl) ?_
            refine r_get (pc := 44) C hP 0 rfl fl_X12_30 rfl dX12_back_44 ?_
            refine lv_bipush (pc := 47) (v := 51) hx hb dX12_back_47 (by decide) ?_
            refine lv_iload_n (pc := 49) hx hb dX12_back_49 rfl (lv_at hl 1 rfl) ?_
            refine lv_imul (pc := 50) hx hb dX12_back_50 ?_
            refine lv_iload_n (pc := 51) hx hb dX12_back_51 rfl (lv_at hl 2 rfl) ?_
            refine lv_iadd (pc := 52) hx hb dX12_back_52 ?_
            obtain ⟨hi_53, hf⟩ := gd_s hf
            refine r_iald (pc := 53) C hP 1 rfl hi_53 dX12_back_53 ?_
            obtain ⟨hi_54, hf⟩ := gd_s hf
            refine r_iast (pc := 54) (ws' := (wX12_back E h h_inn h_tape h_far h_from h_real h_other h_kept h_set h_w h_book h_noteSort h_whose h_what h_noteIs h_fitting h_dawn h_likes h_walked h_came 0 v_trouble v_where v_read v_taped v_size v_at v_sort v_place v_sign v_number v_fault v_wrongAt v_word v_marks v_notes v_kept (upd x32_w x32_2.toNatClampNeg (v_kept ((51 * p0) + x32_2).toNatClampNeg)))) C hP hD hS 2 rfl hi_54 rfl dX12_back_54 ?_
            clear hP hD hS; intro H locs hP hD hS
            refine lv_iinc (pc := 55) (v := x32_2 + 1) (lv' := [(2, .int (x32_2 + 1)), (0, .ref h), (1, .int p0)]) hx hb dX12_back_55 hl (k := 2) rfl rfl (by decide) rfl (fun ls hl => ?_)
            refine lv_goto (pc := 58) (tgt := 32) hx hb dX12_back_58 (by decide) ?_
            exact ih32 (x32_2 + 1) (upd x32_w x32_2.toNatClampNeg (v_kept ((51 * p0) + x32_2).toNatClampNeg)) hf _ _ _ (lv_sub hl [1, 2, 0] rfl) hP hD hS
      exact key32 _ 0 v_w hf _ _ _ (lv_sub hl [1, 2, 0] rfl) hP hD hS
    · replace hf := it_f c_21 hf
      refine lv_aload_n (pc := 24) hx hb dX12_back_24 rfl (lv_at hl 0 rfl) ?_
      refine lv_iconst (pc := 25) (v := 1) hx hb dX12_back_25 (by decide) ?_
      obtain ⟨r_26, v_trouble_26, v_where_26, hc_26, hf⟩ := bd3 hf
      refine r_dalVi (pc := 26) (ws' := (wX12_back E h h_inn h_tape h_far h_from h_real h_other h_kept h_set h_w h_book h_noteSort h_whose h_what h_noteIs h_fitting h_dawn h_likes h_walked h_came 0 v_trouble_26 v_where_26 v_read v_taped v_size v_at v_sort v_place v_sign v_number v_fault v_wrongAt v_word v_marks v_notes v_kept v_w)) (As := [.int 1]) (rest := []) C (ctX12_denied l E h h_tape h_far h_from h_real h_other h_kept h_set h_w h_book h_noteSort h_whose h_what h_noteIs h_fitting h_dawn h_likes h_walked h_came 0 v_trouble v_where (some h_inn) v_read v_taped v_size v_at v_sort v_place v_sign v_number v_fault v_wrongAt v_word v_marks v_notes N 1 (r_26, v_trouble_26, v_where_26) hc_26) ml_X12_415 ⟨Nat.le_of_ble_eq_true rfl, Nat.le_of_ble_eq_true rfl⟩ hP hD hS 0 rfl rfl rfl [0] [3, 1, 2] 3 rfl rfl rfl rfl rfl rfl rfl hl.1 rfl (Nat.le_of_ble_eq_true rfl) ⟨Nat.zero_le _, Nat.zero_le _⟩ dX12_back_26 ?_
      clear hP hD hS; intro H locs hP hD hS
      obtain ⟨hz_29, hf⟩ := zg_s hf
      cases hf
      rw [hQ]
      exact r_zret C hr hP hD hS hz_29 rfl dX12_back_29
def wX12_back0 (E : EN) (h h_tape h_far h_from h_real h_other h_kept h_set h_w h_book h_noteSort h_whose h_what h_noteIs h_fitting h_dawn h_likes h_walked h_came : Nat) (v_thrown : Int32) (v_trouble : Int32) (v_where : Int32) (v_read : Option Nat) (v_taped : Int32) (v_size : Int32) (v_at : Int32) (v_sort : Int32) (v_place : Int32) (v_sign : Int32) (v_number : Int32) (v_fault : Int32) (v_wrongAt : Int32) (v_word : Int64) (v_marks : Int32) (v_notes : Int32) : va_W := [(h, .inr (11, [.int v_thrown, .int v_trouble, .int v_where, .null, va_rf v_read, .ref h_tape, .int v_taped, .int v_size, .int v_at, .int v_sort, .int v_place, .int v_sign, .int v_number, .int v_fault, .int v_wrongAt, .long v_word, .ref h_far, .ref h_from, .ref h_real, .ref h_other, .ref h_kept, .ref h_set, .ref h_w, .int v_marks, .int v_notes, .ref h_book, .ref h_noteSort, .ref h_whose, .ref h_what, .ref h_noteIs, .ref h_fitting, .ref h_dawn, .ref h_likes, .ref h_walked, .ref h_came]))]
def fX12_back0 (N : Nat) : Option (Int32 × Int32 × Int32 × Int32) := (fX12_denied N 1).bind (un3 fun (r_26 : Int32) (v_trouble_26 : Int32) (v_where_26 : Int32) => zg r_26 (some (r_26, 0, v_trouble_26, v_where_26)))
set_option maxHeartbeats 4000000 in
set_option maxRecDepth 100000 in
theorem ctX12_back0 (l : Launch) (E : EN) (h h_tape h_far h_from h_real h_other h_kept h_set h_w h_book h_noteSort h_whose h_what h_noteIs h_fitting h_dawn h_likes h_walked h_came : Nat) (v_thrown : Int32) (v_trouble : Int32) (v_where : Int32) (v_read : Option Nat) (v_taped : Int32) (v_size : Int32) (v_at : Int32) (v_sort : Int32) (v_place : Int32) (v_sign : Int32) (v_number : Int32) (v_fault : Int32) (v_wrongAt : Int32) (v_word : Int64) (v_marks : Int32) (v_notes : Int32) (N : Nat) (p0 : Int32) (z : Int32 × Int32 × Int32 × Int32) (hf : fX12_back0 N  = some z) : CTi l E yX12_back cX12_back 3 .boolean 2 42 [.ref h, .int p0] (wX12_back0 E h h_tape h_far h_from h_real h_other h_kept h_set h_w h_book h_noteSort h_whose h_what h_noteIs h_fitting h_dawn h_likes h_walked h_came v_thrown v_trouble v_where v_read v_taped v_size v_at v_sort v_place v_sign v_number v_fault v_wrongAt v_word v_marks v_notes) (z.1) (wX12_back0 E h h_tape h_far h_from h_real h_other h_kept h_set h_w h_book h_noteSort h_whose h_what h_noteIs h_fitting h_dawn h_likes h_walked h_came z.2.1 z.2.2.1 z.2.2.2 v_read v_taped v_size v_at v_sort v_place v_sign v_number v_fault v_wrongAt v_word v_marks v_notes) := by
  intro sz
  refine ct_body (by decide) (Nat.le_of_ble_eq_true rfl) ?_
  intro p e s m args below meth c A ls hAe C hr hin hP hD hS hl
  have C : CX p s m args meth c cX12_back RX12 3 E A := C
  have hl : lv_has ls 3 [(0, .ref h), (1, .int p0)] := hl
  have hx := C.1
  have hb := C.2.1
  rw [hAe]
  clear hAe
  obtain ⟨Q, hQ⟩ : ∃ Q, Q = MQ below (Qi E A (z.1) (wX12_back0 E h h_tape h_far h_from h_real h_other h_kept h_set h_w h_book h_noteSort h_whose h_what h_noteIs h_fitting h_dawn h_likes h_walked h_came z.2.1 z.2.2.1 z.2.2.2 v_read v_taped v_size v_at v_sort v_place v_sign v_number v_fault v_wrongAt v_word v_marks v_notes)) args s 0 0 A := ⟨_, rfl⟩
  rw [← hQ]
  unfold fX12_back0 at hf
  refine lv_aload_n (pc := 0) hx hb dX12_back_0 rfl (lv_at hl 0 rfl) ?_
  refine lv_iconst (pc := 1) (v := 0) hx hb dX12_back_1 (by decide) ?_
  refine r_put (pc := 2) (ws' := (wX12_back0 E h h_tape h_far h_from h_real h_other h_kept h_set h_w h_book h_noteSort h_whose h_what h_noteIs h_fitting h_dawn h_likes h_walked h_came 0 v_trouble v_where v_read v_taped v_size v_at v_sort v_place v_sign v_number v_fault v_wrongAt v_word v_marks v_notes)) C hP hD hS 0 rfl fl_X12_71 rfl rfl (Nat.le_of_ble_eq_true rfl) rfl dX12_back_2 ?_
  clear hP hD hS; intro H locs hP hD hS
  refine lv_aload_n (pc := 5) hx hb dX12_back_5 rfl (lv_at hl 0 rfl) ?_
  refine r_get (pc := 6) C hP 0 rfl fl_X12_358 rfl dX12_back_6 ?_
  refine lv_ifnullN (pc := 9) (tgt := 24) hx hb dX12_back_9 (by decide) ?_
  refine lv_aload_n (pc := 24) hx hb dX12_back_24 rfl (lv_at hl 0 rfl) ?_
  refine lv_iconst (pc := 25) (v := 1) hx hb dX12_back_25 (by decide) ?_
  obtain ⟨r_26, v_trouble_26, v_where_26, hc_26, hf⟩ := bd3 hf
  refine r_dalVi (pc := 26) (ws' := (wX12_back0 E h h_tape h_far h_from h_real h_other h_kept h_set h_w h_book h_noteSort h_whose h_what h_noteIs h_fitting h_dawn h_likes h_walked h_came 0 v_trouble_26 v_where_26 v_read v_taped v_size v_at v_sort v_place v_sign v_number v_fault v_wrongAt v_word v_marks v_notes)) (As := [.int 1]) (rest := []) C (ctX12_denied l E h h_tape h_far h_from h_real h_other h_kept h_set h_w h_book h_noteSort h_whose h_what h_noteIs h_fitting h_dawn h_likes h_walked h_came 0 v_trouble v_where none v_read v_taped v_size v_at v_sort v_place v_sign v_number v_fault v_wrongAt v_word v_marks v_notes N 1 (r_26, v_trouble_26, v_where_26) hc_26) ml_X12_415 ⟨Nat.le_of_ble_eq_true rfl, Nat.le_of_ble_eq_true rfl⟩ hP hD hS 0 rfl rfl rfl [0] [1] 1 rfl rfl rfl rfl rfl rfl rfl hl.1 rfl (Nat.le_of_ble_eq_true rfl) ⟨Nat.zero_le _, Nat.zero_le _⟩ dX12_back_26 ?_
  clear hP hD hS; intro H locs hP hD hS
  obtain ⟨hz_29, hf⟩ := zg_s hf
  cases hf
  rw [hQ]
  exact r_zret C hr hP hD hS hz_29 rfl dX12_back_29
def wX12_notesDown (E : EN) (h h_tape h_far h_from h_real h_other h_kept h_set h_w h_book h_noteSort h_whose h_what h_noteIs h_fitting h_dawn h_likes h_walked h_came : Nat) (v_thrown : Int32) (v_trouble : Int32) (v_where : Int32) (v_inn : Option Nat) (v_read : Option Nat) (v_taped : Int32) (v_size : Int32) (v_at : Int32) (v_sort : Int32) (v_place : Int32) (v_sign : Int32) (v_number : Int32) (v_fault : Int32) (v_wrongAt : Int32) (v_word : Int64) (v_marks : Int32) (v_notes : Int32) (v_book : Nat → Int32) (v_noteSort : Nat → Int32) (v_whose : Nat → Int32) (v_what : Nat → Int32) (v_noteIs : Nat → Int32) : va_W := [(h, .inr (11, [.int v_thrown, .int v_trouble, .int v_where, va_rf v_inn, va_rf v_read, .ref h_tape, .int v_taped, .int v_size, .int v_at, .int v_sort, .int v_place, .int v_sign, .int v_number, .int v_fault, .int v_wrongAt, .long v_word, .ref h_far, .ref h_from, .ref h_real, .ref h_other, .ref h_kept, .ref h_set, .ref h_w, .int v_marks, .int v_notes, .ref h_book, .ref h_noteSort, .ref h_whose, .ref h_what, .ref h_noteIs, .ref h_fitting, .ref h_dawn, .ref h_likes, .ref h_walked, .ref h_came])), (h_book, aI E 20 v_book), (h_noteSort, aI E 20 v_noteSort), (h_whose, aI E 20 v_whose), (h_what, aI E 20 v_what), (h_noteIs, aZ E 20 v_noteIs)]
def fX12_notesDown (N : Nat) (p0 : Int32) (p1 : Int32) (p2 : Int32) (p3 : Int32) (p4 : Int32) (v_notes : Int32) (v_book : Nat → Int32) (v_noteSort : Nat → Int32) (v_whose : Nat → Int32) (v_what : Nat → Int32) (v_noteIs : Nat → Int32) : Option (Int32 × Int32 × Int32 × Int32 × (Nat → Int32) × (Nat → Int32) × (Nat → Int32) × (Nat → Int32) × (Nat → Int32)) := if v_notes = 20 then ((fX12_refused N 3).bind (un3 fun (r_11 : Int32) (v_trouble_11 : Int32) (v_where_11 : Int32) => some (r_11, v_trouble_11, v_where_11, v_notes, v_book, v_noteSort, v_whose, v_what, v_noteIs))) else (gd v_notes 20 (gd v_notes 20 (gd v_notes 20 (gd v_notes 20 (gd v_notes 20 (zg p4 ((fX12_good N (v_notes + 1)).bind (un3 fun (r_82 : Int32) (v_trouble_82 : Int32) (v_where_82 : Int32) => some (r_82, v_trouble_82, v_where_82, v_notes + 1, upd v_book v_notes.toNatClampNeg p0, upd v_noteSort v_notes.toNatClampNeg p1, upd v_whose v_notes.toNatClampNeg p2, upd v_what v_notes.toNatClampNeg p3, upd v_noteIs v_notes.toNatClampNeg p4)))))))))
set_option maxHeartbeats 4000000 in
set_option maxRecDepth 100000 in
theorem ctX12_notesDown (l : Launch) (E : EN) (h h_tape h_far h_from h_real h_other h_kept h_set h_w h_book h_noteSort h_whose h_what h_noteIs h_fitting h_dawn h_likes h_walked h_came : Nat) (v_thrown : Int32) (v_trouble : Int32) (v_where : Int32) (v_inn : Option Nat) (v_read : Option Nat) (v_taped : Int32) (v_size : Int32) (v_at : Int32) (v_sort : Int32) (v_place : Int32) (v_sign : Int32) (v_number : Int32) (v_fault : Int32) (v_wrongAt : Int32) (v_word : Int64) (v_marks : Int32) (v_notes : Int32) (v_book : Nat → Int32) (v_noteSort : Nat → Int32) (v_whose : Nat → Int32) (v_what : Nat → Int32) (v_noteIs : Nat → Int32) (N : Nat) (p0 : Int32) (p1 : Int32) (p2 : Int32) (p3 : Int32) (p4 : Int32) (z : Int32 × Int32 × Int32 × Int32 × (Nat → Int32) × (Nat → Int32) × (Nat → Int32) × (Nat → Int32) × (Nat → Int32)) (hf : fX12_notesDown N p0 p1 p2 p3 p4 v_notes v_book v_noteSort v_whose v_what v_noteIs = some z) : CTi l E yX12_notesDown cX12_notesDown 6 .int 1 21 [.ref h, .int p0, .int p1, .int p2, .int p3, .int p4] (wX12_notesDown E h h_tape h_far h_from h_real h_other h_kept h_set h_w h_book h_noteSort h_whose h_what h_noteIs h_fitting h_dawn h_likes h_walked h_came v_thrown v_trouble v_where v_inn v_read v_taped v_size v_at v_sort v_place v_sign v_number v_fault v_wrongAt v_word v_marks v_notes v_book v_noteSort v_whose v_what v_noteIs) (z.1) (wX12_notesDown E h h_tape h_far h_from h_real h_other h_kept h_set h_w h_book h_noteSort h_whose h_what h_noteIs h_fitting h_dawn h_likes h_walked h_came v_thrown z.2.1 z.2.2.1 v_inn v_read v_taped v_size v_at v_sort v_place v_sign v_number v_fault v_wrongAt v_word v_marks z.2.2.2.1 z.2.2.2.2.1 z.2.2.2.2.2.1 z.2.2.2.2.2.2.1 z.2.2.2.2.2.2.2.1 z.2.2.2.2.2.2.2.2) := by
  intro sz
  refine ct_body (by decide) (Nat.le_of_ble_eq_true rfl) ?_
  intro p e s m args below meth c A ls hAe C hr hin hP hD hS hl
  have C : CX p s m args meth c cX12_notesDown RX12 6 E A := C
  have hl : lv_has ls 6 [(0, .ref h), (1, .int p0), (2, .int p1), (3, .int p2), (4, .int p3), (5, .int p4)] := hl
  have hx := C.1
  have hb := C.2.1
  rw [hAe]
  clear hAe
  obtain ⟨Q, hQ⟩ : ∃ Q, Q = MQ below (Qi E A (z.1) (wX12_notesDown E h h_tape h_far h_from h_real h_other h_kept h_set h_w h_book h_noteSort h_whose h_what h_noteIs h_fitting h_dawn h_likes h_walked h_came v_thrown z.2.1 z.2.2.1 v_inn v_read v_taped v_size v_at v_sort v_place v_sign v_number v_fault v_wrongAt v_word v_marks z.2.2.2.1 z.2.2.2.2.1 z.2.2.2.2.2.1 z.2.2.2.2.2.2.1 z.2.2.2.2.2.2.2.1 z.2.2.2.2.2.2.2.2)) args s 0 0 A := ⟨_, rfl⟩
  rw [← hQ]
  unfold fX12_notesDown at hf
  refine lv_aload_n (pc := 0) hx hb dX12_notesDown_0 rfl (lv_at hl 0 rfl) ?_
  refine r_get (pc := 1) C hP 0 rfl fl_X12_360 rfl dX12_notesDown_1 ?_
  refine lv_bipush (pc := 4) (v := 20) hx hb dX12_notesDown_4 (by decide) ?_
  refine lv_icmp_ne (pc := 6) (tgt := 15) hx hb dX12_notesDown_6 (by decide) (fun c_6 => ?_) (fun c_6 => ?_)
  · replace hf := it_f c_6 hf
    refine lv_aload_n (pc := 15) hx hb dX12_notesDown_15 rfl (lv_at hl 0 rfl) ?_
    refine r_get (pc := 16) C hP 0 rfl fl_X12_39 rfl dX12_notesDown_16 ?_
    refine lv_aload_n (pc := 19) hx hb dX12_notesDown_19 rfl (lv_at hl 0 rfl) ?_
    refine r_get (pc := 20) C hP 0 rfl fl_X12_360 rfl dX12_notesDown_20 ?_
    refine lv_iload_n (pc := 23) hx hb dX12_notesDown_23 rfl (lv_at hl 1 rfl) ?_
    obtain ⟨hi_24, hf⟩ := gd_s hf
    refine r_iast (pc := 24) (ws' := (wX12_notesDown E h h_tape h_far h_from h_real h_other h_kept h_set h_w h_book h_noteSort h_whose h_what h_noteIs h_fitting h_dawn h_likes h_walked h_came v_thrown v_trouble v_where v_inn v_read v_taped v_size v_at v_sort v_place v_sign v_number v_fault v_wrongAt v_word v_marks v_notes (upd v_book v_notes.toNatClampNeg p0) v_noteSort v_whose v_what v_noteIs)) C hP hD hS 1 rfl hi_24 rfl dX12_notesDown_24 ?_
    clear hP hD hS; intro H locs hP hD hS
    refine lv_aload_n (pc := 25) hx hb dX12_notesDown_25 rfl (lv_at hl 0 rfl) ?_
    refine r_get (pc := 26) C hP 0 rfl fl_X12_42 rfl dX12_notesDown_26 ?_
    refine lv_aload_n (pc := 29) hx hb dX12_notesDown_29 rfl (lv_at hl 0 rfl) ?_
    refine r_get (pc := 30) C hP 0 rfl fl_X12_360 rfl dX12_notesDown_30 ?_
    refine lv_iload_n (pc := 33) hx hb dX12_notesDown_33 rfl (lv_at hl 2 rfl) ?_
    obtain ⟨hi_34, hf⟩ := gd_s hf
    refine r_iast (pc := 34) (ws' := (wX12_notesDown E h h_tape h_far h_from h_real h_other h_kept h_set h_w h_book h_noteSort h_whose h_what h_noteIs h_fitting h_dawn h_likes h_walked h_came v_thrown v_trouble v_where v_inn v_read v_taped v_size v_at v_sort v_place v_sign v_number v_fault v_wrongAt v_word v_marks v_notes (upd v_book v_notes.toNatClampNeg p0) (upd v_noteSort v_notes.toNatClampNeg p1) v_whose v_what v_noteIs)) C hP hD hS 2 rfl hi_34 rfl dX12_notesDown_34 ?_
    clear hP hD hS; intro H locs hP hD hS
    refine lv_aload_n (pc := 35) hx hb dX12_notesDown_35 rfl (lv_at hl 0 rfl) ?_
    refine r_get (pc := 36) C hP 0 rfl fl_X12_45 rfl dX12_notesDown_36 ?_
    refine lv_aload_n (pc := 39) hx hb dX12_notesDown_39 rfl (lv_at hl 0 rfl) ?_
    refine r_get (pc := 40) C hP 0 rfl fl_X12_360 rfl dX12_notesDown_40 ?_
    refine lv_iload_n (pc := 43) hx hb dX12_notesDown_43 rfl (lv_at hl 3 rfl) ?_
    obtain ⟨hi_44, hf⟩ := gd_s hf
    refine r_iast (pc := 44) (ws' := (wX12_notesDown E h h_tape h_far h_from h_real h_other h_kept h_set h_w h_book h_noteSort h_whose h_what h_noteIs h_fitting h_dawn h_likes h_walked h_came v_thrown v_trouble v_where v_inn v_read v_taped v_size v_at v_sort v_place v_sign v_number v_fault v_wrongAt v_word v_marks v_notes (upd v_book v_notes.toNatClampNeg p0) (upd v_noteSort v_notes.toNatClampNeg p1) (upd v_whose v_notes.toNatClampNeg p2) v_what v_noteIs)) C hP hD hS 3 rfl hi_44 rfl dX12_notesDown_44 ?_
    clear hP hD hS; intro H locs hP hD hS
    refine lv_aload_n (pc := 45) hx hb dX12_notesDown_45 rfl (lv_at hl 0 rfl) ?_
    refine r_get (pc := 46) C hP 0 rfl fl_X12_48 rfl dX12_notesDown_46 ?_
    refine lv_aload_n (pc := 49) hx hb dX12_notesDown_49 rfl (lv_at hl 0 rfl) ?_
    refine r_get (pc := 50) C hP 0 rfl fl_X12_360 rfl dX12_notesDown_50 ?_
    refine lv_iload (pc := 53) hx hb dX12_notesDown_53 (lv_at hl 4 rfl) ?_
    obtain ⟨hi_55, hf⟩ := gd_s hf
    refine r_iast (pc := 55) (ws' := (wX12_notesDown E h h_tape h_far h_from h_real h_other h_kept h_set h_w h_book h_noteSort h_whose h_what h_noteIs h_fitting h_dawn h_likes h_walked h_came v_thrown v_trouble v_where v_inn v_read v_taped v_size v_at v_sort v_place v_sign v_number v_fault v_wrongAt v_word v_marks v_notes (upd v_book v_notes.toNatClampNeg p0) (upd v_noteSort v_notes.toNatClampNeg p1) (upd v_whose v_notes.toNatClampNeg p2) (upd v_what v_notes.toNatClampNeg p3) v_noteIs)) C hP hD hS 4 rfl hi_55 rfl dX12_notesDown_55 ?_
    clear hP hD hS; intro H locs hP hD hS
    refine lv_aload_n (pc := 56) hx hb dX12_notesDown_56 rfl (lv_at hl 0 rfl) ?_
    refine r_get (pc := 57) C hP 0 rfl fl_X12_51 rfl dX12_notesDown_57 ?_
    refine lv_aload_n (pc := 60) hx hb dX12_notesDown_60 rfl (lv_at hl 0 rfl) ?_
    refine r_get (pc := 61) C hP 0 rfl fl_X12_360 rfl dX12_notesDown_61 ?_
    refine lv_iload (pc := 64) hx hb dX12_notesDown_64 (lv_at hl 5 rfl) ?_
    obtain ⟨hi_66, hf⟩ := gd_s hf
    obtain ⟨hz_66, hf⟩ := zg_s hf
    refine r_zast (pc := 66) (ws' := (wX12_notesDown E h h_tape h_far h_from h_real h_other h_kept h_set h_w h_book h_noteSort h_whose h_what h_noteIs h_fitting h_dawn h_likes h_walked h_came v_thrown v_trouble v_where v_inn v_read v_taped v_size v_at v_sort v_place v_sign v_number v_fault v_wrongAt v_word v_marks v_notes (upd v_book v_notes.toNatClampNeg p0) (upd v_noteSort v_notes.toNatClampNeg p1) (upd v_whose v_notes.toNatClampNeg p2) (upd v_what v_notes.toNatClampNeg p3) (upd v_noteIs v_notes.toNatClampNeg p4))) C hP hD hS 5 rfl hi_66 hz_66 rfl dX12_notesDown_66 ?_
    clear hP hD hS; intro H locs hP hD hS
    refine lv_aload_n (pc := 67) hx hb dX12_notesDown_67 rfl (lv_at hl 0 rfl) ?_
    refine lv_dup (pc := 68) hx hb dX12_notesDown_68 rfl ?_
    refine r_get (pc := 69) C hP 0 rfl fl_X12_360 rfl dX12_notesDown_69 ?_
    refine lv_iconst (pc := 72) (v := 1) hx hb dX12_notesDown_72 (by decide) ?_
    refine lv_iadd (pc := 73) hx hb dX12_notesDown_73 ?_
    refine r_put (pc := 74) (ws' := (wX12_notesDown E h h_tape h_far h_from h_real h_other h_kept h_set h_w h_book h_noteSort h_whose h_what h_noteIs h_fitting h_dawn h_likes h_walked h_came v_thrown v_trouble v_where v_inn v_read v_taped v_size v_at v_sort v_place v_sign v_number v_fault v_wrongAt v_word v_marks (v_notes + 1) (upd v_book v_notes.toNatClampNeg p0) (upd v_noteSort v_notes.toNatClampNeg p1) (upd v_whose v_notes.toNatClampNeg p2) (upd v_what v_notes.toNatClampNeg p3) (upd v_noteIs v_notes.toNatClampNeg p4))) C hP hD hS 0 rfl fl_X12_360 rfl rfl (Nat.le_of_ble_eq_true rfl) rfl dX12_notesDown_74 ?_
    clear hP hD hS; intro H locs hP hD hS
    refine lv_aload_n (pc := 77) hx hb dX12_notesDown_77 rfl (lv_at hl 0 rfl) ?_
    refine lv_aload_n (pc := 78) hx hb dX12_notesDown_78 rfl (lv_at hl 0 rfl) ?_
    refine r_get (pc := 79) C hP 0 rfl fl_X12_360 rfl dX12_notesDown_79 ?_
    obtain ⟨r_82, v_trouble_82, v_where_82, hc_82, hf⟩ := bd3 hf
    refine r_dalVi (pc := 82) (ws' := (wX12_notesDown E h h_tape h_far h_from h_real h_other h_kept h_set h_w h_book h_noteSort h_whose h_what h_noteIs h_fitting h_dawn h_likes h_walked h_came v_thrown v_trouble_82 v_where_82 v_inn v_read v_taped v_size v_at v_sort v_place v_sign v_number v_fault v_wrongAt v_word v_marks (v_notes + 1) (upd v_book v_notes.toNatClampNeg p0) (upd v_noteSort v_notes.toNatClampNeg p1) (upd v_whose v_notes.toNatClampNeg p2) (upd v_what v_notes.toNatClampNeg p3) (upd v_noteIs v_notes.toNatClampNeg p4))) (As := [.int (v_notes + 1)]) (rest := []) C (ctX12_good l E h h_tape h_far h_from h_real h_other h_kept h_set h_w h_book h_noteSort h_whose h_what h_noteIs h_fitting h_dawn h_likes h_walked h_came v_thrown v_trouble v_where v_inn v_read v_taped v_size v_at v_sort v_place v_sign v_number v_fault v_wrongAt v_word v_marks (v_notes + 1) N (v_notes + 1) (r_82, v_trouble_82, v_where_82) hc_82) ml_X12_81 ⟨Nat.le_of_ble_eq_true rfl, Nat.le_of_ble_eq_true rfl⟩ hP hD hS 0 rfl rfl rfl [0] [6, 1, 2, 3, 4, 5] 6 rfl rfl rfl rfl rfl rfl rfl hl.1 rfl (Nat.le_of_ble_eq_true rfl) ⟨Nat.zero_le _, Nat.zero_le _⟩ dX12_notesDown_82 ?_
    clear hP hD hS; intro H locs hP hD hS
    cases hf
    rw [hQ]
    exact r_iret C hr hP hD hS rfl dX12_notesDown_85
  · replace hf := it_t c_6 hf
    refine lv_aload_n (pc := 9) hx hb dX12_notesDown_9 rfl (lv_at hl 0 rfl) ?_
    refine lv_iconst (pc := 10) (v := 3) hx hb dX12_notesDown_10 (by decide) ?_
    obtain ⟨r_11, v_trouble_11, v_where_11, hc_11, hf⟩ := bd3 hf
    refine r_dalVi (pc := 11) (ws' := (wX12_notesDown E h h_tape h_far h_from h_real h_other h_kept h_set h_w h_book h_noteSort h_whose h_what h_noteIs h_fitting h_dawn h_likes h_walked h_came v_thrown v_trouble_11 v_where_11 v_inn v_read v_taped v_size v_at v_sort v_place v_sign v_number v_fault v_wrongAt v_word v_marks v_notes v_book v_noteSort v_whose v_what v_noteIs)) (As := [.int 3]) (rest := []) C (ctX12_refused l E h h_tape h_far h_from h_real h_other h_kept h_set h_w h_book h_noteSort h_whose h_what h_noteIs h_fitting h_dawn h_likes h_walked h_came v_thrown v_trouble v_where v_inn v_read v_taped v_size v_at v_sort v_place v_sign v_number v_fault v_wrongAt v_word v_marks v_notes N 3 (r_11, v_trouble_11, v_where_11) hc_11) ml_X12_77 ⟨Nat.le_of_ble_eq_true rfl, Nat.le_of_ble_eq_true rfl⟩ hP hD hS 0 rfl rfl rfl [0] [6, 1, 2, 3, 4, 5] 6 rfl rfl rfl rfl rfl rfl rfl hl.1 rfl (Nat.le_of_ble_eq_true rfl) ⟨Nat.zero_le _, Nat.zero_le _⟩ dX12_notesDown_11 ?_
    clear hP hD hS; intro H locs hP hD hS
    cases hf
    rw [hQ]
    exact r_iret C hr hP hD hS rfl dX12_notesDown_14
def wX12_isBook (E : EN) : va_W := []
def fX12_isBook (N : Nat) (p0 : Int32) : Option Int32 := (fX12_in N p0 0 1).bind (un1 fun (r_3 : Int32) => zg r_3 (some r_3))
set_option maxHeartbeats 4000000 in
set_option maxRecDepth 100000 in
theorem ctX12_isBook (l : Launch) (E : EN) (N : Nat) (p0 : Int32) (z : Int32) (hf : fX12_isBook N p0 = some z) : CTi l E yX12_isBook cX12_isBook 1 .boolean 1 22 [.int p0] (wX12_isBook E) (z) (wX12_isBook E) := by
  intro sz
  refine ct_body (by decide) (Nat.le_of_ble_eq_true rfl) ?_
  intro p e s m args below meth c A ls hAe C hr hin hP hD hS hl
  have C : CX p s m args meth c cX12_isBook RX12 1 E A := C
  have hl : lv_has ls 1 [(0, .int p0)] := hl
  have hx := C.1
  have hb := C.2.1
  rw [hAe]
  clear hAe
  obtain ⟨Q, hQ⟩ : ∃ Q, Q = MQ below (Qi E A (z) (wX12_isBook E)) args s 0 0 A := ⟨_, rfl⟩
  rw [← hQ]
  unfold fX12_isBook at hf
  refine lv_iload_n (pc := 0) hx hb dX12_isBook_0 rfl (lv_at hl 0 rfl) ?_
  refine lv_iconst (pc := 1) (v := 0) hx hb dX12_isBook_1 (by decide) ?_
  refine lv_iconst (pc := 2) (v := 1) hx hb dX12_isBook_2 (by decide) ?_
  obtain ⟨r_3, hc_3, hf⟩ := bd1 hf
  refine r_dalSi (pc := 3) (Cn := "") (h := 0) (ws' := (wX12_isBook E)) (As := [.int p0, .int 0, .int 1]) (rest := []) C (ctX12_in l E N p0 0 1 r_3 hc_3) ml_X12_149 ⟨Nat.le_of_ble_eq_true rfl, Nat.le_of_ble_eq_true rfl⟩ hP hD hS [] [] 0 rfl rfl rfl rfl rfl rfl rfl hl.1 rfl (Nat.le_of_ble_eq_true rfl) ⟨Nat.zero_le _, Nat.zero_le _⟩ dX12_isBook_3 ?_
  clear hP hD hS; intro H locs hP hD hS
  obtain ⟨hz_6, hf⟩ := zg_s hf
  cases hf
  rw [hQ]
  exact r_zret C hr hP hD hS hz_6 rfl dX12_isBook_6
def wX12_noteHeard (E : EN) (h h_inn h_tape h_far h_from h_real h_other h_kept h_set h_w h_book h_noteSort h_whose h_what h_noteIs h_fitting h_dawn h_likes h_walked h_came h_inn_creak h_inn_doorA h_inn_doorB h_inn_how h_inn_lies h_inn_isCold h_inn_falls h_inn_isFull h_inn_isTold h_inn_act h_inn_what h_inn_then h_inn_met h_inn_bed h_inn_dream h_inn_listens h_inn_name h_inn_nameSort h_inn_nameNumber : Nat) (v_thrown : Int32) (v_trouble : Int32) (v_where : Int32) (v_read : Option Nat) (v_taped : Int32) (v_size : Int32) (v_at : Int32) (v_sort : Int32) (v_place : Int32) (v_sign : Int32) (v_number : Int32) (v_fault : Int32) (v_wrongAt : Int32) (v_word : Int64) (v_marks : Int32) (v_notes : Int32) (v_inn_minutes : Int32) (v_inn_rooms : Int32) (v_inn_doors : Int32) (v_inn_things : Int32) (v_inn_dreams : Int32) (v_inn_sleepers : Int32) (v_inn_listeners : Int32) (v_inn_names : Int32) (v_book : Nat → Int32) (v_noteSort : Nat → Int32) (v_whose : Nat → Int32) (v_what : Nat → Int32) (v_noteIs : Nat → Int32) : va_W := [(h, .inr (11, [.int v_thrown, .int v_trouble, .int v_where, .ref h_inn, va_rf v_read, .ref h_tape, .int v_taped, .int v_size, .int v_at, .int v_sort, .int v_place, .int v_sign, .int v_number, .int v_fault, .int v_wrongAt, .long v_word, .ref h_far, .ref h_from, .ref h_real, .ref h_other, .ref h_kept, .ref h_set, .ref h_w, .int v_marks, .int v_notes, .ref h_book, .ref h_noteSort, .ref h_whose, .ref h_what, .ref h_noteIs, .ref h_fitting, .ref h_dawn, .ref h_likes, .ref h_walked, .ref h_came])), (h_inn, .inr (10, [.int v_inn_minutes, .int v_inn_rooms, .int v_inn_doors, .int v_inn_things, .int v_inn_dreams, .int v_inn_sleepers, .int v_inn_listeners, .int v_inn_names, .ref h_inn_creak, .ref h_inn_doorA, .ref h_inn_doorB, .ref h_inn_how, .ref h_inn_lies, .ref h_inn_isCold, .ref h_inn_falls, .ref h_inn_isFull, .ref h_inn_isTold, .ref h_inn_act, .ref h_inn_what, .ref h_inn_then, .ref h_inn_met, .ref h_inn_bed, .ref h_inn_dream, .ref h_inn_listens, .ref h_inn_name, .ref h_inn_nameSort, .ref h_inn_nameNumber])), (h_book, aI E 20 v_book), (h_noteSort, aI E 20 v_noteSort), (h_whose, aI E 20 v_whose), (h_what, aI E 20 v_what), (h_noteIs, aZ E 20 v_noteIs)]
def fX12_noteHeard (N : Nat) (p0 : Int32) (p1 : Int32) (p2 : Int32) (p3 : Int32) (v_notes : Int32) (v_inn_minutes : Int32) (v_inn_listeners : Int32) (v_book : Nat → Int32) (v_noteSort : Nat → Int32) (v_whose : Nat → Int32) (v_what : Nat → Int32) (v_noteIs : Nat → Int32) : Option (Int32 × Int32 × Int32 × Int32 × Int32 × (Nat → Int32) × (Nat → Int32) × (Nat → Int32) × (Nat → Int32) × (Nat → Int32)) := (fX12_isBook N p0).bind (un1 fun (r_6 : Int32) => if r_6 = 0 then ((fX12_refused N 1).bind (un3 fun (r_22 : Int32) (v_trouble_22 : Int32) (v_where_22 : Int32) => some (r_22, 0, v_trouble_22, v_where_22, v_notes, v_book, v_noteSort, v_whose, v_what, v_noteIs))) else ((fX12_isListener N p1 v_inn_listeners).bind (un1 fun (r_14 : Int32) => if r_14 = 0 then ((fX12_refused N 1).bind (un3 fun (r_22 : Int32) (v_trouble_22 : Int32) (v_where_22 : Int32) => some (r_22, 0, v_trouble_22, v_where_22, v_notes, v_book, v_noteSort, v_whose, v_what, v_noteIs))) else ((fX12_in N p2 1 v_inn_minutes).bind (un1 fun (r_35 : Int32) => if r_35 = 0 then ((fX12_refused N 2).bind (un3 fun (r_56 : Int32) (v_trouble_56 : Int32) (v_where_56 : Int32) => some (r_56, 0, v_trouble_56, v_where_56, v_notes, v_book, v_noteSort, v_whose, v_what, v_noteIs))) else ((fX12_notesDown N p0 0 p1 p2 p3 v_notes v_book v_noteSort v_whose v_what v_noteIs).bind (un9 fun (r_48 : Int32) (v_trouble_48 : Int32) (v_where_48 : Int32) (v_notes_48 : Int32) (v_book_48 : Nat → Int32) (v_noteSort_48 : Nat → Int32) (v_whose_48 : Nat → Int32) (v_what_48 : Nat → Int32) (v_noteIs_48 : Nat → Int32) => some (r_48, 0, v_trouble_48, v_where_48, v_notes_48, v_book_48, v_noteSort_48, v_whose_48, v_what_48, v_noteIs_48))))))))
set_option maxHeartbeats 4000000 in
set_option maxRecDepth 100000 in
theorem ctX12_noteHeard (l : Launch) (E : EN) (h h_inn h_tape h_far h_from h_real h_other h_kept h_set h_w h_book h_noteSort h_whose h_what h_noteIs h_fitting h_dawn h_likes h_walked h_came h_inn_creak h_inn_doorA h_inn_doorB h_inn_how h_inn_lies h_inn_isCold h_inn_falls h_inn_isFull h_inn_isTold h_inn_act h_inn_what h_inn_then h_inn_met h_inn_bed h_inn_dream h_inn_listens h_inn_name h_inn_nameSort h_inn_nameNumber : Nat) (v_thrown : Int32) (v_trouble : Int32) (v_where : Int32) (v_read : Option Nat) (v_taped : Int32) (v_size : Int32) (v_at : Int32) (v_sort : Int32) (v_place : Int32) (v_sign : Int32) (v_number : Int32) (v_fault : Int32) (v_wrongAt : Int32) (v_word : Int64) (v_marks : Int32) (v_notes : Int32) (v_inn_minutes : Int32) (v_inn_rooms : Int32) (v_inn_doors : Int32) (v_inn_things : Int32) (v_inn_dreams : Int32) (v_inn_sleepers : Int32) (v_inn_listeners : Int32) (v_inn_names : Int32) (v_book : Nat → Int32) (v_noteSort : Nat → Int32) (v_whose : Nat → Int32) (v_what : Nat → Int32) (v_noteIs : Nat → Int32) (N : Nat) (p0 : Int32) (p1 : Int32) (p2 : Int32) (p3 : Int32) (z : Int32 × Int32 × Int32 × Int32 × Int32 × (Nat → Int32) × (Nat → Int32) × (Nat → Int32) × (Nat → Int32) × (Nat → Int32)) (hf : fX12_noteHeard N p0 p1 p2 p3 v_notes v_inn_minutes v_inn_listeners v_book v_noteSort v_whose v_what v_noteIs = some z) : CTi l E yX12_noteHeard cX12_noteHeard 5 .int 2 46 [.ref h, .int p0, .int p1, .int p2, .int p3] (wX12_noteHeard E h h_inn h_tape h_far h_from h_real h_other h_kept h_set h_w h_book h_noteSort h_whose h_what h_noteIs h_fitting h_dawn h_likes h_walked h_came h_inn_creak h_inn_doorA h_inn_doorB h_inn_how h_inn_lies h_inn_isCold h_inn_falls h_inn_isFull h_inn_isTold h_inn_act h_inn_what h_inn_then h_inn_met h_inn_bed h_inn_dream h_inn_listens h_inn_name h_inn_nameSort h_inn_nameNumber v_thrown v_trouble v_where v_read v_taped v_size v_at v_sort v_place v_sign v_number v_fault v_wrongAt v_word v_marks v_notes v_inn_minutes v_inn_rooms v_inn_doors v_inn_things v_inn_dreams v_inn_sleepers v_inn_listeners v_inn_names v_book v_noteSort v_whose v_what v_noteIs) (z.1) (wX12_noteHeard E h h_inn h_tape h_far h_from h_real h_other h_kept h_set h_w h_book h_noteSort h_whose h_what h_noteIs h_fitting h_dawn h_likes h_walked h_came h_inn_creak h_inn_doorA h_inn_doorB h_inn_how h_inn_lies h_inn_isCold h_inn_falls h_inn_isFull h_inn_isTold h_inn_act h_inn_what h_inn_then h_inn_met h_inn_bed h_inn_dream h_inn_listens h_inn_name h_inn_nameSort h_inn_nameNumber z.2.1 z.2.2.1 z.2.2.2.1 v_read v_taped v_size v_at v_sort v_place v_sign v_number v_fault v_wrongAt v_word v_marks z.2.2.2.2.1 v_inn_minutes v_inn_rooms v_inn_doors v_inn_things v_inn_dreams v_inn_sleepers v_inn_listeners v_inn_names z.2.2.2.2.2.1 z.2.2.2.2.2.2.1 z.2.2.2.2.2.2.2.1 z.2.2.2.2.2.2.2.2.1 z.2.2.2.2.2.2.2.2.2) := by
  intro sz
  refine ct_body (by decide) (Nat.le_of_ble_eq_true rfl) ?_
  intro p e s m args below meth c A ls hAe C hr hin hP hD hS hl
  have C : CX p s m args meth c cX12_noteHeard RX12 5 E A := C
  have hl : lv_has ls 5 [(0, .ref h), (1, .int p0), (2, .int p1), (3, .int p2), (4, .int p3)] := hl
  have hx := C.1
  have hb := C.2.1
  rw [hAe]
  clear hAe
  obtain ⟨Q, hQ⟩ : ∃ Q, Q = MQ below (Qi E A (z.1) (wX12_noteHeard E h h_inn h_tape h_far h_from h_real h_other h_kept h_set h_w h_book h_noteSort h_whose h_what h_noteIs h_fitting h_dawn h_likes h_walked h_came h_inn_creak h_inn_doorA h_inn_doorB h_inn_how h_inn_lies h_inn_isCold h_inn_falls h_inn_isFull h_inn_isTold h_inn_act h_inn_what h_inn_then h_inn_met h_inn_bed h_inn_dream h_inn_listens h_inn_name h_inn_nameSort h_inn_nameNumber z.2.1 z.2.2.1 z.2.2.2.1 v_read v_taped v_size v_at v_sort v_place v_sign v_number v_fault v_wrongAt v_word v_marks z.2.2.2.2.1 v_inn_minutes v_inn_rooms v_inn_doors v_inn_things v_inn_dreams v_inn_sleepers v_inn_listeners v_inn_names z.2.2.2.2.2.1 z.2.2.2.2.2.2.1 z.2.2.2.2.2.2.2.1 z.2.2.2.2.2.2.2.2.1 z.2.2.2.2.2.2.2.2.2)) args s 0 0 A := ⟨_, rfl⟩
  rw [← hQ]
  unfold fX12_noteHeard at hf
  refine lv_aload_n (pc := 0) hx hb dX12_noteHeard_0 rfl (lv_at hl 0 rfl) ?_
  refine lv_iconst (pc := 1) (v := 0) hx hb dX12_noteHeard_1 (by decide) ?_
  refine r_put (pc := 2) (ws' := (wX12_noteHeard E h h_inn h_tape h_far h_from h_real h_other h_kept h_set h_w h_book h_noteSort h_whose h_what h_noteIs h_fitting h_dawn h_likes h_walked h_came h_inn_creak h_inn_doorA h_inn_doorB h_inn_how h_inn_lies h_inn_isCold h_inn_falls h_inn_isFull h_inn_isTold h_inn_act h_inn_what h_inn_then h_inn_met h_inn_bed h_inn_dream h_inn_listens h_inn_name h_inn_nameSort h_inn_nameNumber 0 v_trouble v_where v_read v_taped v_size v_at v_sort v_place v_sign v_number v_fault v_wrongAt v_word v_marks v_notes v_inn_minutes v_inn_rooms v_inn_doors v_inn_things v_inn_dreams v_inn_sleepers v_inn_listeners v_inn_names v_book v_noteSort v_whose v_what v_noteIs)) C hP hD hS 0 rfl fl_X12_71 rfl rfl (Nat.le_of_ble_eq_true rfl) rfl dX12_noteHeard_2 ?_
  clear hP hD hS; intro H locs hP hD hS
  refine lv_iload_n (pc := 5) hx hb dX12_noteHeard_5 rfl (lv_at hl 1 rfl) ?_
  obtain ⟨r_6, hc_6, hf⟩ := bd1 hf
  refine r_dalSi (pc := 6) (Cn := "") (h := 0) (ws' := (wX12_noteHeard E h h_inn h_tape h_far h_from h_real h_other h_kept h_set h_w h_book h_noteSort h_whose h_what h_noteIs h_fitting h_dawn h_likes h_walked h_came h_inn_creak h_inn_doorA h_inn_doorB h_inn_how h_inn_lies h_inn_isCold h_inn_falls h_inn_isFull h_inn_isTold h_inn_act h_inn_what h_inn_then h_inn_met h_inn_bed h_inn_dream h_inn_listens h_inn_name h_inn_nameSort h_inn_nameNumber 0 v_trouble v_where v_read v_taped v_size v_at v_sort v_place v_sign v_number v_fault v_wrongAt v_word v_marks v_notes v_inn_minutes v_inn_rooms v_inn_doors v_inn_things v_inn_dreams v_inn_sleepers v_inn_listeners v_inn_names v_book v_noteSort v_whose v_what v_noteIs)) (As := [.int p0]) (rest := []) C (ctX12_isBook l E N p0 r_6 hc_6) ml_X12_445 ⟨Nat.le_of_ble_eq_true rfl, Nat.le_of_ble_eq_true rfl⟩ hP hD hS [] [0, 1, 2, 3, 4, 5, 6] 7 rfl rfl rfl rfl rfl rfl rfl hl.1 rfl (Nat.le_of_ble_eq_true rfl) ⟨Nat.zero_le _, Nat.zero_le _⟩ dX12_noteHeard_6 ?_
  clear hP hD hS; intro H locs hP hD hS
  refine lv_if_eq (pc := 9) (tgt := 20) hx hb dX12_noteHeard_9 (by decide) (fun c_9 => ?_) (fun c_9 => ?_)
  · replace hf := it_t c_9 hf
    refine lv_aload_n (pc := 20) hx hb dX12_noteHeard_20 rfl (lv_at hl 0 rfl) ?_
    refine lv_iconst (pc := 21) (v := 1) hx hb dX12_noteHeard_21 (by decide) ?_
    obtain ⟨r_22, v_trouble_22, v_where_22, hc_22, hf⟩ := bd3 hf
    refine r_dalVi (pc := 22) (ws' := (wX12_noteHeard E h h_inn h_tape h_far h_from h_real h_other h_kept h_set h_w h_book h_noteSort h_whose h_what h_noteIs h_fitting h_dawn h_likes h_walked h_came h_inn_creak h_inn_doorA h_inn_doorB h_inn_how h_inn_lies h_inn_isCold h_inn_falls h_inn_isFull h_inn_isTold h_inn_act h_inn_what h_inn_then h_inn_met h_inn_bed h_inn_dream h_inn_listens h_inn_name h_inn_nameSort h_inn_nameNumber 0 v_trouble_22 v_where_22 v_read v_taped v_size v_at v_sort v_place v_sign v_number v_fault v_wrongAt v_word v_marks v_notes v_inn_minutes v_inn_rooms v_inn_doors v_inn_things v_inn_dreams v_inn_sleepers v_inn_listeners v_inn_names v_book v_noteSort v_whose v_what v_noteIs)) (As := [.int 1]) (rest := []) C (ctX12_refused l E h h_tape h_far h_from h_real h_other h_kept h_set h_w h_book h_noteSort h_whose h_what h_noteIs h_fitting h_dawn h_likes h_walked h_came 0 v_trouble v_where (some h_inn) v_read v_taped v_size v_at v_sort v_place v_sign v_number v_fault v_wrongAt v_word v_marks v_notes N 1 (r_22, v_trouble_22, v_where_22) hc_22) ml_X12_77 ⟨Nat.le_of_ble_eq_true rfl, Nat.le_of_ble_eq_true rfl⟩ hP hD hS 0 rfl rfl rfl [0] [7, 1, 2, 3, 4, 5, 6] 7 rfl rfl rfl rfl rfl rfl rfl hl.1 rfl (Nat.le_of_ble_eq_true rfl) ⟨Nat.zero_le _, Nat.zero_le _⟩ dX12_noteHeard_22 ?_
    clear hP hD hS; intro H locs hP hD hS
    cases hf
    rw [hQ]
    exact r_iret C hr hP hD hS rfl dX12_noteHeard_25
  · replace hf := it_f c_9 hf
    refine lv_aload_n (pc := 12) hx hb dX12_noteHeard_12 rfl (lv_at hl 0 rfl) ?_
    refine lv_iload_n (pc := 13) hx hb dX12_noteHeard_13 rfl (lv_at hl 2 rfl) ?_
    obtain ⟨r_14, hc_14, hf⟩ := bd1 hf
    refine r_dalVi (pc := 14) (ws' := (wX12_noteHeard E h h_inn h_tape h_far h_from h_real h_other h_kept h_set h_w h_book h_noteSort h_whose h_what h_noteIs h_fitting h_dawn h_likes h_walked h_came h_inn_creak h_inn_doorA h_inn_doorB h_inn_how h_inn_lies h_inn_isCold h_inn_falls h_inn_isFull h_inn_isTold h_inn_act h_inn_what h_inn_then h_inn_met h_inn_bed h_inn_dream h_inn_listens h_inn_name h_inn_nameSort h_inn_nameNumber 0 v_trouble v_where v_read v_taped v_size v_at v_sort v_place v_sign v_number v_fault v_wrongAt v_word v_marks v_notes v_inn_minutes v_inn_rooms v_inn_doors v_inn_things v_inn_dreams v_inn_sleepers v_inn_listeners v_inn_names v_book v_noteSort v_whose v_what v_noteIs)) (As := [.int p1]) (rest := []) C (ctX12_isListener l E h h_inn h_tape h_far h_from h_real h_other h_kept h_set h_w h_book h_noteSort h_whose h_what h_noteIs h_fitting h_dawn h_likes h_walked h_came h_inn_creak h_inn_doorA h_inn_doorB h_inn_how h_inn_lies h_inn_isCold h_inn_falls h_inn_isFull h_inn_isTold h_inn_act h_inn_what h_inn_then h_inn_met h_inn_bed h_inn_dream h_inn_listens h_inn_name h_inn_nameSort h_inn_nameNumber 0 v_trouble v_where v_read v_taped v_size v_at v_sort v_place v_sign v_number v_fault v_wrongAt v_word v_marks v_notes v_inn_minutes v_inn_rooms v_inn_doors v_inn_things v_inn_dreams v_inn_sleepers v_inn_listeners v_inn_names N p1 r_14 hc_14) ml_X12_436 ⟨Nat.le_of_ble_eq_true rfl, Nat.le_of_ble_eq_true rfl⟩ hP hD hS 0 rfl rfl rfl [0, 1] [7, 8, 2, 3, 4, 5, 6] 7 rfl rfl rfl rfl rfl rfl rfl hl.1 rfl (Nat.le_of_ble_eq_true rfl) ⟨Nat.zero_le _, Nat.zero_le _⟩ dX12_noteHeard_14 ?_
    clear hP hD hS; intro H locs hP hD hS
    refine lv_if_ne (pc := 17) (tgt := 26) hx hb dX12_noteHeard_17 (by decide) (fun c_17 => ?_) (fun c_17 => ?_)
    · replace hf := it_f c_17 hf
      refine lv_iload_n (pc := 26) hx hb dX12_noteHeard_26 rfl (lv_at hl 3 rfl) ?_
      refine lv_iconst (pc := 27) (v := 1) hx hb dX12_noteHeard_27 (by decide) ?_
      refine lv_aload_n (pc := 28) hx hb dX12_noteHeard_28 rfl (lv_at hl 0 rfl) ?_
      refine r_get (pc := 29) C hP 0 rfl fl_X12_358 rfl dX12_noteHeard_29 ?_
      refine r_get (pc := 32) C hP 1 rfl fl_X12_241 rfl dX12_noteHeard_32 ?_
      obtain ⟨r_35, hc_35, hf⟩ := bd1 hf
      refine r_dalSi (pc := 35) (Cn := "") (h := 0) (ws' := (wX12_noteHeard E h h_inn h_tape h_far h_from h_real h_other h_kept h_set h_w h_book h_noteSort h_whose h_what h_noteIs h_fitting h_dawn h_likes h_walked h_came h_inn_creak h_inn_doorA h_inn_doorB h_inn_how h_inn_lies h_inn_isCold h_inn_falls h_inn_isFull h_inn_isTold h_inn_act h_inn_what h_inn_then h_inn_met h_inn_bed h_inn_dream h_inn_listens h_inn_name h_inn_nameSort h_inn_nameNumber 0 v_trouble v_where v_read v_taped v_size v_at v_sort v_place v_sign v_number v_fault v_wrongAt v_word v_marks v_notes v_inn_minutes v_inn_rooms v_inn_doors v_inn_things v_inn_dreams v_inn_sleepers v_inn_listeners v_inn_names v_book v_noteSort v_whose v_what v_noteIs)) (As := [.int p2, .int 1, .int v_inn_minutes]) (rest := []) C (ctX12_in l E N p2 1 v_inn_minutes r_35 hc_35) ml_X12_149 ⟨Nat.le_of_ble_eq_true rfl, Nat.le_of_ble_eq_true rfl⟩ hP hD hS [] [0, 1, 2, 3, 4, 5, 6] 7 rfl rfl rfl rfl rfl rfl rfl hl.1 rfl (Nat.le_of_ble_eq_true rfl) ⟨Nat.zero_le _, Nat.zero_le _⟩ dX12_noteHeard_35 ?_
      clear hP hD hS; intro H locs hP hD hS
      refine lv_if_eq (pc := 38) (tgt := 54) hx hb dX12_noteHeard_38 (by decide) (fun c_38 => ?_) (fun c_38 => ?_)
      · replace hf := it_t c_38 hf
        refine lv_aload_n (pc := 54) hx hb dX12_noteHeard_54 rfl (lv_at hl 0 rfl) ?_
        refine lv_iconst (pc := 55) (v := 2) hx hb dX12_noteHeard_55 (by decide) ?_
        obtain ⟨r_56, v_trouble_56, v_where_56, hc_56, hf⟩ := bd3 hf
        refine r_dalVi (pc := 56) (ws' := (wX12_noteHeard E h h_inn h_tape h_far h_from h_real h_other h_kept h_set h_w h_book h_noteSort h_whose h_what h_noteIs h_fitting h_dawn h_likes h_walked h_came h_inn_creak h_inn_doorA h_inn_doorB h_inn_how h_inn_lies h_inn_isCold h_inn_falls h_inn_isFull h_inn_isTold h_inn_act h_inn_what h_inn_then h_inn_met h_inn_bed h_inn_dream h_inn_listens h_inn_name h_inn_nameSort h_inn_nameNumber 0 v_trouble_56 v_where_56 v_read v_taped v_size v_at v_sort v_place v_sign v_number v_fault v_wrongAt v_word v_marks v_notes v_inn_minutes v_inn_rooms v_inn_doors v_inn_things v_inn_dreams v_inn_sleepers v_inn_listeners v_inn_names v_book v_noteSort v_whose v_what v_noteIs)) (As := [.int 2]) (rest := []) C (ctX12_refused l E h h_tape h_far h_from h_real h_other h_kept h_set h_w h_book h_noteSort h_whose h_what h_noteIs h_fitting h_dawn h_likes h_walked h_came 0 v_trouble v_where (some h_inn) v_read v_taped v_size v_at v_sort v_place v_sign v_number v_fault v_wrongAt v_word v_marks v_notes N 2 (r_56, v_trouble_56, v_where_56) hc_56) ml_X12_77 ⟨Nat.le_of_ble_eq_true rfl, Nat.le_of_ble_eq_true rfl⟩ hP hD hS 0 rfl rfl rfl [0] [7, 1, 2, 3, 4, 5, 6] 7 rfl rfl rfl rfl rfl rfl rfl hl.1 rfl (Nat.le_of_ble_eq_true rfl) ⟨Nat.zero_le _, Nat.zero_le _⟩ dX12_noteHeard_56 ?_
        clear hP hD hS; intro H locs hP hD hS
        cases hf
        rw [hQ]
        exact r_iret C hr hP hD hS rfl dX12_noteHeard_59
      · replace hf := it_f c_38 hf
        refine lv_aload_n (pc := 41) hx hb dX12_noteHeard_41 rfl (lv_at hl 0 rfl) ?_
        refine lv_iload_n (pc := 42) hx hb dX12_noteHeard_42 rfl (lv_at hl 1 rfl) ?_
        refine lv_iconst (pc := 43) (v := 0) hx hb dX12_noteHeard_43 (by decide) ?_
        refine lv_iload_n (pc := 44) hx hb dX12_noteHeard_44 rfl (lv_at hl 2 rfl) ?_
        refine lv_iload_n (pc := 45) hx hb dX12_noteHeard_45 rfl (lv_at hl 3 rfl) ?_
        refine lv_iload (pc := 46) hx hb dX12_noteHeard_46 (lv_at hl 4 rfl) ?_
        obtain ⟨r_48, v_trouble_48, v_where_48, v_notes_48, v_book_48, v_noteSort_48, v_whose_48, v_what_48, v_noteIs_48, hc_48, hf⟩ := bd9 hf
        refine r_dalVi (pc := 48) (ws' := (wX12_noteHeard E h h_inn h_tape h_far h_from h_real h_other h_kept h_set h_w h_book h_noteSort h_whose h_what h_noteIs h_fitting h_dawn h_likes h_walked h_came h_inn_creak h_inn_doorA h_inn_doorB h_inn_how h_inn_lies h_inn_isCold h_inn_falls h_inn_isFull h_inn_isTold h_inn_act h_inn_what h_inn_then h_inn_met h_inn_bed h_inn_dream h_inn_listens h_inn_name h_inn_nameSort h_inn_nameNumber 0 v_trouble_48 v_where_48 v_read v_taped v_size v_at v_sort v_place v_sign v_number v_fault v_wrongAt v_word v_marks v_notes_48 v_inn_minutes v_inn_rooms v_inn_doors v_inn_things v_inn_dreams v_inn_sleepers v_inn_listeners v_inn_names v_book_48 v_noteSort_48 v_whose_48 v_what_48 v_noteIs_48)) (As := [.int p0, .int 0, .int p1, .int p2, .int p3]) (rest := []) C (ctX12_notesDown l E h h_tape h_far h_from h_real h_other h_kept h_set h_w h_book h_noteSort h_whose h_what h_noteIs h_fitting h_dawn h_likes h_walked h_came 0 v_trouble v_where (some h_inn) v_read v_taped v_size v_at v_sort v_place v_sign v_number v_fault v_wrongAt v_word v_marks v_notes v_book v_noteSort v_whose v_what v_noteIs N p0 0 p1 p2 p3 (r_48, v_trouble_48, v_where_48, v_notes_48, v_book_48, v_noteSort_48, v_whose_48, v_what_48, v_noteIs_48) hc_48) ml_X12_448 ⟨Nat.le_of_ble_eq_true rfl, Nat.le_of_ble_eq_true rfl⟩ hP hD hS 0 rfl rfl rfl [0, 2, 3, 4, 5, 6] [7, 1, 8, 9, 10, 11, 12] 7 rfl rfl rfl rfl rfl rfl rfl hl.1 rfl (Nat.le_of_ble_eq_true rfl) ⟨Nat.zero_le _, Nat.zero_le _⟩ dX12_noteHeard_48 ?_
        clear hP hD hS; intro H locs hP hD hS
        refine lv_goto (pc := 51) (tgt := 59) hx hb dX12_noteHeard_51 (by decide) ?_
        cases hf
        rw [hQ]
        exact r_iret C hr hP hD hS rfl dX12_noteHeard_59
    · replace hf := it_t c_17 hf
      refine lv_aload_n (pc := 20) hx hb dX12_noteHeard_20 rfl (lv_at hl 0 rfl) ?_
      refine lv_iconst (pc := 21) (v := 1) hx hb dX12_noteHeard_21 (by decide) ?_
      obtain ⟨r_22, v_trouble_22, v_where_22, hc_22, hf⟩ := bd3 hf
      refine r_dalVi (pc := 22) (ws' := (wX12_noteHeard E h h_inn h_tape h_far h_from h_real h_other h_kept h_set h_w h_book h_noteSort h_whose h_what h_noteIs h_fitting h_dawn h_likes h_walked h_came h_inn_creak h_inn_doorA h_inn_doorB h_inn_how h_inn_lies h_inn_isCold h_inn_falls h_inn_isFull h_inn_isTold h_inn_act h_inn_what h_inn_then h_inn_met h_inn_bed h_inn_dream h_inn_listens h_inn_name h_inn_nameSort h_inn_nameNumber 0 v_trouble_22 v_where_22 v_read v_taped v_size v_at v_sort v_place v_sign v_number v_fault v_wrongAt v_word v_marks v_notes v_inn_minutes v_inn_rooms v_inn_doors v_inn_things v_inn_dreams v_inn_sleepers v_inn_listeners v_inn_names v_book v_noteSort v_whose v_what v_noteIs)) (As := [.int 1]) (rest := []) C (ctX12_refused l E h h_tape h_far h_from h_real h_other h_kept h_set h_w h_book h_noteSort h_whose h_what h_noteIs h_fitting h_dawn h_likes h_walked h_came 0 v_trouble v_where (some h_inn) v_read v_taped v_size v_at v_sort v_place v_sign v_number v_fault v_wrongAt v_word v_marks v_notes N 1 (r_22, v_trouble_22, v_where_22) hc_22) ml_X12_77 ⟨Nat.le_of_ble_eq_true rfl, Nat.le_of_ble_eq_true rfl⟩ hP hD hS 0 rfl rfl rfl [0] [7, 1, 2, 3, 4, 5, 6] 7 rfl rfl rfl rfl rfl rfl rfl hl.1 rfl (Nat.le_of_ble_eq_true rfl) ⟨Nat.zero_le _, Nat.zero_le _⟩ dX12_noteHeard_22 ?_
      clear hP hD hS; intro H locs hP hD hS
      cases hf
      rw [hQ]
      exact r_iret C hr hP hD hS rfl dX12_noteHeard_25
def wX12_noteHeard0 (E : EN) (h h_tape h_far h_from h_real h_other h_kept h_set h_w h_book h_noteSort h_whose h_what h_noteIs h_fitting h_dawn h_likes h_walked h_came : Nat) (v_thrown : Int32) (v_trouble : Int32) (v_where : Int32) (v_read : Option Nat) (v_taped : Int32) (v_size : Int32) (v_at : Int32) (v_sort : Int32) (v_place : Int32) (v_sign : Int32) (v_number : Int32) (v_fault : Int32) (v_wrongAt : Int32) (v_word : Int64) (v_marks : Int32) (v_notes : Int32) : va_W := [(h, .inr (11, [.int v_thrown, .int v_trouble, .int v_where, .null, va_rf v_read, .ref h_tape, .int v_taped, .int v_size, .int v_at, .int v_sort, .int v_place, .int v_sign, .int v_number, .int v_fault, .int v_wrongAt, .long v_word, .ref h_far, .ref h_from, .ref h_real, .ref h_other, .ref h_kept, .ref h_set, .ref h_w, .int v_marks, .int v_notes, .ref h_book, .ref h_noteSort, .ref h_whose, .ref h_what, .ref h_noteIs, .ref h_fitting, .ref h_dawn, .ref h_likes, .ref h_walked, .ref h_came]))]
def fX12_noteHeard0 (N : Nat) (p0 : Int32) : Option (Int32 × Int32 × Int32 × Int32) := (fX12_isBook N p0).bind (un1 fun (r_6 : Int32) => if r_6 = 0 then ((fX12_refused N 1).bind (un3 fun (r_22 : Int32) (v_trouble_22 : Int32) (v_where_22 : Int32) => some (r_22, 0, v_trouble_22, v_where_22))) else ((fX12_isListener0 N).bind (un1 fun (r_14 : Int32) => if r_14 = 0 then ((fX12_refused N 1).bind (un3 fun (r_22 : Int32) (v_trouble_22 : Int32) (v_where_22 : Int32) => some (r_22, 0, v_trouble_22, v_where_22))) else (none))))
set_option maxHeartbeats 4000000 in
set_option maxRecDepth 100000 in
theorem ctX12_noteHeard0 (l : Launch) (E : EN) (h h_tape h_far h_from h_real h_other h_kept h_set h_w h_book h_noteSort h_whose h_what h_noteIs h_fitting h_dawn h_likes h_walked h_came : Nat) (v_thrown : Int32) (v_trouble : Int32) (v_where : Int32) (v_read : Option Nat) (v_taped : Int32) (v_size : Int32) (v_at : Int32) (v_sort : Int32) (v_place : Int32) (v_sign : Int32) (v_number : Int32) (v_fault : Int32) (v_wrongAt : Int32) (v_word : Int64) (v_marks : Int32) (v_notes : Int32) (N : Nat) (p0 : Int32) (p1 : Int32) (p2 : Int32) (p3 : Int32) (z : Int32 × Int32 × Int32 × Int32) (hf : fX12_noteHeard0 N p0 = some z) : CTi l E yX12_noteHeard cX12_noteHeard 5 .int 2 42 [.ref h, .int p0, .int p1, .int p2, .int p3] (wX12_noteHeard0 E h h_tape h_far h_from h_real h_other h_kept h_set h_w h_book h_noteSort h_whose h_what h_noteIs h_fitting h_dawn h_likes h_walked h_came v_thrown v_trouble v_where v_read v_taped v_size v_at v_sort v_place v_sign v_number v_fault v_wrongAt v_word v_marks v_notes) (z.1) (wX12_noteHeard0 E h h_tape h_far h_from h_real h_other h_kept h_set h_w h_book h_noteSort h_whose h_what h_noteIs h_fitting h_dawn h_likes h_walked h_came z.2.1 z.2.2.1 z.2.2.2 v_read v_taped v_size v_at v_sort v_place v_sign v_number v_fault v_wrongAt v_word v_marks v_notes) := by
  intro sz
  refine ct_body (by decide) (Nat.le_of_ble_eq_true rfl) ?_
  intro p e s m args below meth c A ls hAe C hr hin hP hD hS hl
  have C : CX p s m args meth c cX12_noteHeard RX12 5 E A := C
  have hl : lv_has ls 5 [(0, .ref h), (1, .int p0), (2, .int p1), (3, .int p2), (4, .int p3)] := hl
  have hx := C.1
  have hb := C.2.1
  rw [hAe]
  clear hAe
  obtain ⟨Q, hQ⟩ : ∃ Q, Q = MQ below (Qi E A (z.1) (wX12_noteHeard0 E h h_tape h_far h_from h_real h_other h_kept h_set h_w h_book h_noteSort h_whose h_what h_noteIs h_fitting h_dawn h_likes h_walked h_came z.2.1 z.2.2.1 z.2.2.2 v_read v_taped v_size v_at v_sort v_place v_sign v_number v_fault v_wrongAt v_word v_marks v_notes)) args s 0 0 A := ⟨_, rfl⟩
  rw [← hQ]
  unfold fX12_noteHeard0 at hf
  refine lv_aload_n (pc := 0) hx hb dX12_noteHeard_0 rfl (lv_at hl 0 rfl) ?_
  refine lv_iconst (pc := 1) (v := 0) hx hb dX12_noteHeard_1 (by decide) ?_
  refine r_put (pc := 2) (ws' := (wX12_noteHeard0 E h h_tape h_far h_from h_real h_other h_kept h_set h_w h_book h_noteSort h_whose h_what h_noteIs h_fitting h_dawn h_likes h_walked h_came 0 v_trouble v_where v_read v_taped v_size v_at v_sort v_place v_sign v_number v_fault v_wrongAt v_word v_marks v_notes)) C hP hD hS 0 rfl fl_X12_71 rfl rfl (Nat.le_of_ble_eq_true rfl) rfl dX12_noteHeard_2 ?_
  clear hP hD hS; intro H locs hP hD hS
  refine lv_iload_n (pc := 5) hx hb dX12_noteHeard_5 rfl (lv_at hl 1 rfl) ?_
  obtain ⟨r_6, hc_6, hf⟩ := bd1 hf
  refine r_dalSi (pc := 6) (Cn := "") (h := 0) (ws' := (wX12_noteHeard0 E h h_tape h_far h_from h_real h_other h_kept h_set h_w h_book h_noteSort h_whose h_what h_noteIs h_fitting h_dawn h_likes h_walked h_came 0 v_trouble v_where v_read v_taped v_size v_at v_sort v_place v_sign v_number v_fault v_wrongAt v_word v_marks v_notes)) (As := [.int p0]) (rest := []) C (ctX12_isBook l E N p0 r_6 hc_6) ml_X12_445 ⟨Nat.le_of_ble_eq_true rfl, Nat.le_of_ble_eq_true rfl⟩ hP hD hS [] [0] 1 rfl rfl rfl rfl rfl rfl rfl hl.1 rfl (Nat.le_of_ble_eq_true rfl) ⟨Nat.zero_le _, Nat.zero_le _⟩ dX12_noteHeard_6 ?_
  clear hP hD hS; intro H locs hP hD hS
  refine lv_if_eq (pc := 9) (tgt := 20) hx hb dX12_noteHeard_9 (by decide) (fun c_9 => ?_) (fun c_9 => ?_)
  · replace hf := it_t c_9 hf
    refine lv_aload_n (pc := 20) hx hb dX12_noteHeard_20 rfl (lv_at hl 0 rfl) ?_
    refine lv_iconst (pc := 21) (v := 1) hx hb dX12_noteHeard_21 (by decide) ?_
    obtain ⟨r_22, v_trouble_22, v_where_22, hc_22, hf⟩ := bd3 hf
    refine r_dalVi (pc := 22) (ws' := (wX12_noteHeard0 E h h_tape h_far h_from h_real h_other h_kept h_set h_w h_book h_noteSort h_whose h_what h_noteIs h_fitting h_dawn h_likes h_walked h_came 0 v_trouble_22 v_where_22 v_read v_taped v_size v_at v_sort v_place v_sign v_number v_fault v_wrongAt v_word v_marks v_notes)) (As := [.int 1]) (rest := []) C (ctX12_refused l E h h_tape h_far h_from h_real h_other h_kept h_set h_w h_book h_noteSort h_whose h_what h_noteIs h_fitting h_dawn h_likes h_walked h_came 0 v_trouble v_where none v_read v_taped v_size v_at v_sort v_place v_sign v_number v_fault v_wrongAt v_word v_marks v_notes N 1 (r_22, v_trouble_22, v_where_22) hc_22) ml_X12_77 ⟨Nat.le_of_ble_eq_true rfl, Nat.le_of_ble_eq_true rfl⟩ hP hD hS 0 rfl rfl rfl [0] [1] 1 rfl rfl rfl rfl rfl rfl rfl hl.1 rfl (Nat.le_of_ble_eq_true rfl) ⟨Nat.zero_le _, Nat.zero_le _⟩ dX12_noteHeard_22 ?_
    clear hP hD hS; intro H locs hP hD hS
    cases hf
    rw [hQ]
    exact r_iret C hr hP hD hS rfl dX12_noteHeard_25
  · replace hf := it_f c_9 hf
    refine lv_aload_n (pc := 12) hx hb dX12_noteHeard_12 rfl (lv_at hl 0 rfl) ?_
    refine lv_iload_n (pc := 13) hx hb dX12_noteHeard_13 rfl (lv_at hl 2 rfl) ?_
    obtain ⟨r_14, hc_14, hf⟩ := bd1 hf
    refine r_dalVi (pc := 14) (ws' := (wX12_noteHeard0 E h h_tape h_far h_from h_real h_other h_kept h_set h_w h_book h_noteSort h_whose h_what h_noteIs h_fitting h_dawn h_likes h_walked h_came 0 v_trouble v_where v_read v_taped v_size v_at v_sort v_place v_sign v_number v_fault v_wrongAt v_word v_marks v_notes)) (As := [.int p1]) (rest := []) C (ctX12_isListener0 l E h h_tape h_far h_from h_real h_other h_kept h_set h_w h_book h_noteSort h_whose h_what h_noteIs h_fitting h_dawn h_likes h_walked h_came 0 v_trouble v_where v_read v_taped v_size v_at v_sort v_place v_sign v_number v_fault v_wrongAt v_word v_marks v_notes N p1 r_14 hc_14) ml_X12_436 ⟨Nat.le_of_ble_eq_true rfl, Nat.le_of_ble_eq_true rfl⟩ hP hD hS 0 rfl rfl rfl [0] [1] 1 rfl rfl rfl rfl rfl rfl rfl hl.1 rfl (Nat.le_of_ble_eq_true rfl) ⟨Nat.zero_le _, Nat.zero_le _⟩ dX12_noteHeard_14 ?_
    clear hP hD hS; intro H locs hP hD hS
    refine lv_if_ne (pc := 17) (tgt := 26) hx hb dX12_noteHeard_17 (by decide) (fun c_17 => ?_) (fun c_17 => ?_)
    · replace hf := it_f c_17 hf
      refine lv_iload_n (pc := 26) hx hb dX12_noteHeard_26 rfl (lv_at hl 3 rfl) ?_
      refine lv_iconst (pc := 27) (v := 1) hx hb dX12_noteHeard_27 (by decide) ?_
      refine lv_aload_n (pc := 28) hx hb dX12_noteHeard_28 rfl (lv_at hl 0 rfl) ?_
      refine r_get (pc := 29) C hP 0 rfl fl_X12_358 rfl dX12_noteHeard_29 ?_
      cases hf
    · replace hf := it_t c_17 hf
      refine lv_aload_n (pc := 20) hx hb dX12_noteHeard_20 rfl (lv_at hl 0 rfl) ?_
      refine lv_iconst (pc := 21) (v := 1) hx hb dX12_noteHeard_21 (by decide) ?_
      obtain ⟨r_22, v_trouble_22, v_where_22, hc_22, hf⟩ := bd3 hf
      refine r_dalVi (pc := 22) (ws' := (wX12_noteHeard0 E h h_tape h_far h_from h_real h_other h_kept h_set h_w h_book h_noteSort h_whose h_what h_noteIs h_fitting h_dawn h_likes h_walked h_came 0 v_trouble_22 v_where_22 v_read v_taped v_size v_at v_sort v_place v_sign v_number v_fault v_wrongAt v_word v_marks v_notes)) (As := [.int 1]) (rest := []) C (ctX12_refused l E h h_tape h_far h_from h_real h_other h_kept h_set h_w h_book h_noteSort h_whose h_what h_noteIs h_fitting h_dawn h_likes h_walked h_came 0 v_trouble v_where none v_read v_taped v_size v_at v_sort v_place v_sign v_number v_fault v_wrongAt v_word v_marks v_notes N 1 (r_22, v_trouble_22, v_where_22) hc_22) ml_X12_77 ⟨Nat.le_of_ble_eq_true rfl, Nat.le_of_ble_eq_true rfl⟩ hP hD hS 0 rfl rfl rfl [0] [1] 1 rfl rfl rfl rfl rfl rfl rfl hl.1 rfl (Nat.le_of_ble_eq_true rfl) ⟨Nat.zero_le _, Nat.zero_le _⟩ dX12_noteHeard_22 ?_
      clear hP hD hS; intro H locs hP hD hS
      cases hf
      rw [hQ]
      exact r_iret C hr hP hD hS rfl dX12_noteHeard_25
def wX12_noteThing (E : EN) (h h_inn h_tape h_far h_from h_real h_other h_kept h_set h_w h_book h_noteSort h_whose h_what h_noteIs h_fitting h_dawn h_likes h_walked h_came h_inn_creak h_inn_doorA h_inn_doorB h_inn_how h_inn_lies h_inn_isCold h_inn_falls h_inn_isFull h_inn_isTold h_inn_act h_inn_what h_inn_then h_inn_met h_inn_bed h_inn_dream h_inn_listens h_inn_name h_inn_nameSort h_inn_nameNumber : Nat) (v_thrown : Int32) (v_trouble : Int32) (v_where : Int32) (v_read : Option Nat) (v_taped : Int32) (v_size : Int32) (v_at : Int32) (v_sort : Int32) (v_place : Int32) (v_sign : Int32) (v_number : Int32) (v_fault : Int32) (v_wrongAt : Int32) (v_word : Int64) (v_marks : Int32) (v_notes : Int32) (v_inn_minutes : Int32) (v_inn_rooms : Int32) (v_inn_doors : Int32) (v_inn_things : Int32) (v_inn_dreams : Int32) (v_inn_sleepers : Int32) (v_inn_listeners : Int32) (v_inn_names : Int32) (v_book : Nat → Int32) (v_noteSort : Nat → Int32) (v_whose : Nat → Int32) (v_what : Nat → Int32) (v_noteIs : Nat → Int32) : va_W := [(h, .inr (11, [.int v_thrown, .int v_trouble, .int v_where, .ref h_inn, va_rf v_read, .ref h_tape, .int v_taped, .int v_size, .int v_at, .int v_sort, .int v_place, .int v_sign, .int v_number, .int v_fault, .int v_wrongAt, .long v_word, .ref h_far, .ref h_from, .ref h_real, .ref h_other, .ref h_kept, .ref h_set, .ref h_w, .int v_marks, .int v_notes, .ref h_book, .ref h_noteSort, .ref h_whose, .ref h_what, .ref h_noteIs, .ref h_fitting, .ref h_dawn, .ref h_likes, .ref h_walked, .ref h_came])), (h_inn, .inr (10, [.int v_inn_minutes, .int v_inn_rooms, .int v_inn_doors, .int v_inn_things, .int v_inn_dreams, .int v_inn_sleepers, .int v_inn_listeners, .int v_inn_names, .ref h_inn_creak, .ref h_inn_doorA, .ref h_inn_doorB, .ref h_inn_how, .ref h_inn_lies, .ref h_inn_isCold, .ref h_inn_falls, .ref h_inn_isFull, .ref h_inn_isTold, .ref h_inn_act, .ref h_inn_what, .ref h_inn_then, .ref h_inn_met, .ref h_inn_bed, .ref h_inn_dream, .ref h_inn_listens, .ref h_inn_name, .ref h_inn_nameSort, .ref h_inn_nameNumber])), (h_book, aI E 20 v_book), (h_noteSort, aI E 20 v_noteSort), (h_whose, aI E 20 v_whose), (h_what, aI E 20 v_what), (h_noteIs, aZ E 20 v_noteIs)]
def fX12_noteThing (N : Nat) (p0 : Int32) (p1 : Int32) (p2 : Int32) (v_notes : Int32) (v_inn_rooms : Int32) (v_inn_things : Int32) (v_book : Nat → Int32) (v_noteSort : Nat → Int32) (v_whose : Nat → Int32) (v_what : Nat → Int32) (v_noteIs : Nat → Int32) : Option (Int32 × Int32 × Int32 × Int32 × Int32 × (Nat → Int32) × (Nat → Int32) × (Nat → Int32) × (Nat → Int32) × (Nat → Int32)) := (fX12_isBook N p0).bind (un1 fun (r_6 : Int32) => jn (un0 ((fX12_refused N 1).bind (un3 fun (r_42 : Int32) (v_trouble_42 : Int32) (v_where_42 : Int32) => some (r_42, 0, v_trouble_42, v_where_42, v_notes, v_book, v_noteSort, v_whose, v_what, v_noteIs)))) (fun j40 => if r_6 = 0 then (j40 ()) else ((fX12_isThing N p1 v_inn_things).bind (un1 fun (r_14 : Int32) => if r_14 = 0 then (j40 ()) else ((fX12_isRoom N p2 v_inn_rooms).bind (un1 fun (r_22 : Int32) => if r_22 = 0 then (j40 ()) else ((fX12_notesDown N p0 1 p1 p2 1 v_notes v_book v_noteSort v_whose v_what v_noteIs).bind (un9 fun (r_34 : Int32) (v_trouble_34 : Int32) (v_where_34 : Int32) (v_notes_34 : Int32) (v_book_34 : Nat → Int32) (v_noteSort_34 : Nat → Int32) (v_whose_34 : Nat → Int32) (v_what_34 : Nat → Int32) (v_noteIs_34 : Nat → Int32) => some (r_34, 0, v_trouble_34, v_where_34, v_notes_34, v_book_34, v_noteSort_34, v_whose_34, v_what_34, v_noteIs_34)))))))))
set_option maxHeartbeats 4000000 in
set_option maxRecDepth 100000 in
theorem ctX12_noteThing (l : Launch) (E : EN) (h h_inn h_tape h_far h_from h_real h_other h_kept h_set h_w h_book h_noteSort h_whose h_what h_noteIs h_fitting h_dawn h_likes h_walked h_came h_inn_creak h_inn_doorA h_inn_doorB h_inn_how h_inn_lies h_inn_isCold h_inn_falls h_inn_isFull h_inn_isTold h_inn_act h_inn_what h_inn_then h_inn_met h_inn_bed h_inn_dream h_inn_listens h_inn_name h_inn_nameSort h_inn_nameNumber : Nat) (v_thrown : Int32) (v_trouble : Int32) (v_where : Int32) (v_read : Option Nat) (v_taped : Int32) (v_size : Int32) (v_at : Int32) (v_sort : Int32) (v_place : Int32) (v_sign : Int32) (v_number : Int32) (v_fault : Int32) (v_wrongAt : Int32) (v_word : Int64) (v_marks : Int32) (v_notes : Int32) (v_inn_minutes : Int32) (v_inn_rooms : Int32) (v_inn_doors : Int32) (v_inn_things : Int32) (v_inn_dreams : Int32) (v_inn_sleepers : Int32) (v_inn_listeners : Int32) (v_inn_names : Int32) (v_book : Nat → Int32) (v_noteSort : Nat → Int32) (v_whose : Nat → Int32) (v_what : Nat → Int32) (v_noteIs : Nat → Int32) (N : Nat) (p0 : Int32) (p1 : Int32) (p2 : Int32) (z : Int32 × Int32 × Int32 × Int32 × Int32 × (Nat → Int32) × (Nat → Int32) × (Nat → Int32) × (Nat → Int32) × (Nat → Int32)) (hf : fX12_noteThing N p0 p1 p2 v_notes v_inn_rooms v_inn_things v_book v_noteSort v_whose v_what v_noteIs = some z) : CTi l E yX12_noteThing cX12_noteThing 4 .int 2 46 [.ref h, .int p0, .int p1, .int p2] (wX12_noteThing E h h_inn h_tape h_far h_from h_real h_other h_kept h_set h_w h_book h_noteSort h_whose h_what h_noteIs h_fitting h_dawn h_likes h_walked h_came h_inn_creak h_inn_doorA h_inn_doorB h_inn_how h_inn_lies h_inn_isCold h_inn_falls h_inn_isFull h_inn_isTold h_inn_act h_inn_what h_inn_then h_inn_met h_inn_bed h_inn_dream h_inn_listens h_inn_name h_inn_nameSort h_inn_nameNumber v_thrown v_trouble v_where v_read v_taped v_size v_at v_sort v_place v_sign v_number v_fault v_wrongAt v_word v_marks v_notes v_inn_minutes v_inn_rooms v_inn_doors v_inn_things v_inn_dreams v_inn_sleepers v_inn_listeners v_inn_names v_book v_noteSort v_whose v_what v_noteIs) (z.1) (wX12_noteThing E h h_inn h_tape h_far h_from h_real h_other h_kept h_set h_w h_book h_noteSort h_whose h_what h_noteIs h_fitting h_dawn h_likes h_walked h_came h_inn_creak h_inn_doorA h_inn_doorB h_inn_how h_inn_lies h_inn_isCold h_inn_falls h_inn_isFull h_inn_isTold h_inn_act h_inn_what h_inn_then h_inn_met h_inn_bed h_inn_dream h_inn_listens h_inn_name h_inn_nameSort h_inn_nameNumber z.2.1 z.2.2.1 z.2.2.2.1 v_read v_taped v_size v_at v_sort v_place v_sign v_number v_fault v_wrongAt v_word v_marks z.2.2.2.2.1 v_inn_minutes v_inn_rooms v_inn_doors v_inn_things v_inn_dreams v_inn_sleepers v_inn_listeners v_inn_names z.2.2.2.2.2.1 z.2.2.2.2.2.2.1 z.2.2.2.2.2.2.2.1 z.2.2.2.2.2.2.2.2.1 z.2.2.2.2.2.2.2.2.2) := by
  intro sz
  refine ct_body (by decide) (Nat.le_of_ble_eq_true rfl) ?_
  intro p e s m args below meth c A ls hAe C hr hin hP hD hS hl
  have C : CX p s m args meth c cX12_noteThing RX12 4 E A := C
  have hl : lv_has ls 4 [(0, .ref h), (1, .int p0), (2, .int p1), (3, .int p2)] := hl
  have hx := C.1
  have hb := C.2.1
  rw [hAe]
  clear hAe
  obtain ⟨Q, hQ⟩ : ∃ Q, Q = MQ below (Qi E A (z.1) (wX12_noteThing E h h_inn h_tape h_far h_from h_real h_other h_kept h_set h_w h_book h_noteSort h_whose h_what h_noteIs h_fitting h_dawn h_likes h_walked h_came h_inn_creak h_inn_doorA h_inn_doorB h_inn_how h_inn_lies h_inn_isCold h_inn_falls h_inn_isFull h_inn_isTold h_inn_act h_inn_what h_inn_then h_inn_met h_inn_bed h_inn_dream h_inn_listens h_inn_name h_inn_nameSort h_inn_nameNumber z.2.1 z.2.2.1 z.2.2.2.1 v_read v_taped v_size v_at v_sort v_place v_sign v_number v_fault v_wrongAt v_word v_marks z.2.2.2.2.1 v_inn_minutes v_inn_rooms v_inn_doors v_inn_things v_inn_dreams v_inn_sleepers v_inn_listeners v_inn_names z.2.2.2.2.2.1 z.2.2.2.2.2.2.1 z.2.2.2.2.2.2.2.1 z.2.2.2.2.2.2.2.2.1 z.2.2.2.2.2.2.2.2.2)) args s 0 0 A := ⟨_, rfl⟩
  rw [← hQ]
  unfold fX12_noteThing at hf
  refine lv_aload_n (pc := 0) hx hb dX12_noteThing_0 rfl (lv_at hl 0 rfl) ?_
  refine lv_iconst (pc := 1) (v := 0) hx hb dX12_noteThing_1 (by decide) ?_
  refine r_put (pc := 2) (ws' := (wX12_noteThing E h h_inn h_tape h_far h_from h_real h_other h_kept h_set h_w h_book h_noteSort h_whose h_what h_noteIs h_fitting h_dawn h_likes h_walked h_came h_inn_creak h_inn_doorA h_inn_doorB h_inn_how h_inn_lies h_inn_isCold h_inn_falls h_inn_isFull h_inn_isTold h_inn_act h_inn_what h_inn_then h_inn_met h_inn_bed h_inn_dream h_inn_listens h_inn_name h_inn_nameSort h_inn_nameNumber 0 v_trouble v_where v_read v_taped v_size v_at v_sort v_place v_sign v_number v_fault v_wrongAt v_word v_marks v_notes v_inn_minutes v_inn_rooms v_inn_doors v_inn_things v_inn_dreams v_inn_sleepers v_inn_listeners v_inn_names v_book v_noteSort v_whose v_what v_noteIs)) C hP hD hS 0 rfl fl_X12_71 rfl rfl (Nat.le_of_ble_eq_true rfl) rfl dX12_noteThing_2 ?_
  clear hP hD hS; intro H locs hP hD hS
  refine lv_iload_n (pc := 5) hx hb dX12_noteThing_5 rfl (lv_at hl 1 rfl) ?_
  obtain ⟨r_6, hc_6, hf⟩ := bd1 hf
  refine r_dalSi (pc := 6) (Cn := "") (h := 0) (ws' := (wX12_noteThing E h h_inn h_tape h_far h_from h_real h_other h_kept h_set h_w h_book h_noteSort h_whose h_what h_noteIs h_fitting h_dawn h_likes h_walked h_came h_inn_creak h_inn_doorA h_inn_doorB h_inn_how h_inn_lies h_inn_isCold h_inn_falls h_inn_isFull h_inn_isTold h_inn_act h_inn_what h_inn_then h_inn_met h_inn_bed h_inn_dream h_inn_listens h_inn_name h_inn_nameSort h_inn_nameNumber 0 v_trouble v_where v_read v_taped v_size v_at v_sort v_place v_sign v_number v_fault v_wrongAt v_word v_marks v_notes v_inn_minutes v_inn_rooms v_inn_doors v_inn_things v_inn_dreams v_inn_sleepers v_inn_listeners v_inn_names v_book v_noteSort v_whose v_what v_noteIs)) (As := [.int p0]) (rest := []) C (ctX12_isBook l E N p0 r_6 hc_6) ml_X12_445 ⟨Nat.le_of_ble_eq_true rfl, Nat.le_of_ble_eq_true rfl⟩ hP hD hS [] [0, 1, 2, 3, 4, 5, 6] 7 rfl rfl rfl rfl rfl rfl rfl hl.1 rfl (Nat.le_of_ble_eq_true rfl) ⟨Nat.zero_le _, Nat.zero_le _⟩ dX12_noteThing_6 ?_
  clear hP hD hS; intro H locs hP hD hS
  refine jnK hf (fun j40 ej40 hf => ?_)
  have hj40 : j40 () = some z → AT p l e (rmOf 2 46) s m args below meth c E A Q 0 0 4 [(0, .ref h)] (wX12_noteThing E h h_inn h_tape h_far h_from h_real h_other h_kept h_set h_w h_book h_noteSort h_whose h_what h_noteIs h_fitting h_dawn h_likes h_walked h_came h_inn_creak h_inn_doorA h_inn_doorB h_inn_how h_inn_lies h_inn_isCold h_inn_falls h_inn_isFull h_inn_isTold h_inn_act h_inn_what h_inn_then h_inn_met h_inn_bed h_inn_dream h_inn_listens h_inn_name h_inn_nameSort h_inn_nameNumber 0 v_trouble v_where v_read v_taped v_size v_at v_sort v_place v_sign v_number v_fault v_wrongAt v_word v_marks v_notes v_inn_minutes v_inn_rooms v_inn_doors v_inn_things v_inn_dreams v_inn_sleepers v_inn_listeners v_inn_names v_book v_noteSort v_whose v_what v_noteIs) 40 [] := by
    intro  hf H locs ls hl hP hD hS
    rw [ej40] at hf
    replace hf := un0_s hf
    refine lv_aload_n (pc := 40) hx hb dX12_noteThing_40 rfl (lv_at hl 0 rfl) ?_
    refine lv_iconst (pc := 41) (v := 1) hx hb dX12_noteThing_41 (by decide) ?_
    obtain ⟨r_42, v_trouble_42, v_where_42, hc_42, hf⟩ := bd3 hf
    refine r_dalVi (pc := 42) (ws' := (wX12_noteThing E h h_inn h_tape h_far h_from h_real h_other h_kept h_set h_w h_book h_noteSort h_whose h_what h_noteIs h_fitting h_dawn h_likes h_walked h_came h_inn_creak h_inn_doorA h_inn_doorB h_inn_how h_inn_lies h_inn_isCold h_inn_falls h_inn_isFull h_inn_isTold h_inn_act h_inn_what h_inn_then h_inn_met h_inn_bed h_inn_dream h_inn_listens h_inn_name h_inn_nameSort h_inn_nameNumber 0 v_trouble_42 v_where_42 v_read v_taped v_size v_at v_sort v_place v_sign v_number v_fault v_wrongAt v_word v_marks v_notes v_inn_minutes v_inn_rooms v_inn_doors v_inn_things v_inn_dreams v_inn_sleepers v_inn_listeners v_inn_names v_book v_noteSort v_whose v_what v_noteIs)) (As := [.int 1]) (rest := []) C (ctX12_refused l E h h_tape h_far h_from h_real h_other h_kept h_set h_w h_book h_noteSort h_whose h_what h_noteIs h_fitting h_dawn h_likes h_walked h_came 0 v_trouble v_where (some h_inn) v_read v_taped v_size v_at v_sort v_place v_sign v_number v_fault v_wrongAt v_word v_marks v_notes N 1 (r_42, v_trouble_42, v_where_42) hc_42) ml_X12_77 ⟨Nat.le_of_ble_eq_true rfl, Nat.le_of_ble_eq_true rfl⟩ hP hD hS 0 rfl rfl rfl [0] [7, 1, 2, 3, 4, 5, 6] 7 rfl rfl rfl rfl rfl rfl rfl hl.1 rfl (Nat.le_of_ble_eq_true rfl) ⟨Nat.zero_le _, Nat.zero_le _⟩ dX12_noteThing_42 ?_
    clear hP hD hS; intro H locs hP hD hS
    cases hf
    rw [hQ]
    exact r_iret C hr hP hD hS rfl dX12_noteThing_45
  clear ej40
  refine lv_if_eq (pc := 9) (tgt := 40) hx hb dX12_noteThing_9 (by decide) (fun c_9 => ?_) (fun c_9 => ?_)
  · replace hf := it_t c_9 hf
    exact hj40  hf _ _ _ (lv_sub hl [0] rfl) hP hD hS
  · replace hf := it_f c_9 hf
    refine lv_aload_n (pc := 12) hx hb dX12_noteThing_12 rfl (lv_at hl 0 rfl) ?_
    refine lv_iload_n (pc := 13) hx hb dX12_noteThing_13 rfl (lv_at hl 2 rfl) ?_
    obtain ⟨r_14, hc_14, hf⟩ := bd1 hf
    refine r_dalVi (pc := 14) (ws' := (wX12_noteThing E h h_inn h_tape h_far h_from h_real h_other h_kept h_set h_w h_book h_noteSort h_whose h_what h_noteIs h_fitting h_dawn h_likes h_walked h_came h_inn_creak h_inn_doorA h_inn_doorB h_inn_how h_inn_lies h_inn_isCold h_inn_falls h_inn_isFull h_inn_isTold h_inn_act h_inn_what h_inn_then h_inn_met h_inn_bed h_inn_dream h_inn_listens h_inn_name h_inn_nameSort h_inn_nameNumber 0 v_trouble v_where v_read v_taped v_size v_at v_sort v_place v_sign v_number v_fault v_wrongAt v_word v_marks v_notes v_inn_minutes v_inn_rooms v_inn_doors v_inn_things v_inn_dreams v_inn_sleepers v_inn_listeners v_inn_names v_book v_noteSort v_whose v_what v_noteIs)) (As := [.int p1]) (rest := []) C (ctX12_isThing l E h h_inn h_tape h_far h_from h_real h_other h_kept h_set h_w h_book h_noteSort h_whose h_what h_noteIs h_fitting h_dawn h_likes h_walked h_came h_inn_creak h_inn_doorA h_inn_doorB h_inn_how h_inn_lies h_inn_isCold h_inn_falls h_inn_isFull h_inn_isTold h_inn_act h_inn_what h_inn_then h_inn_met h_inn_bed h_inn_dream h_inn_listens h_inn_name h_inn_nameSort h_inn_nameNumber 0 v_trouble v_where v_read v_taped v_size v_at v_sort v_place v_sign v_number v_fault v_wrongAt v_word v_marks v_notes v_inn_minutes v_inn_rooms v_inn_doors v_inn_things v_inn_dreams v_inn_sleepers v_inn_listeners v_inn_names N p1 r_14 hc_14) ml_X12_430 ⟨Nat.le_of_ble_eq_true rfl, Nat.le_of_ble_eq_true rfl⟩ hP hD hS 0 rfl rfl rfl [0, 1] [7, 8, 2, 3, 4, 5, 6] 7 rfl rfl rfl rfl rfl rfl rfl hl.1 rfl (Nat.le_of_ble_eq_true rfl) ⟨Nat.zero_le _, Nat.zero_le _⟩ dX12_noteThing_14 ?_
    clear hP hD hS; intro H locs hP hD hS
    refine lv_if_eq (pc := 17) (tgt := 40) hx hb dX12_noteThing_17 (by decide) (fun c_17 => ?_) (fun c_17 => ?_)
    · replace hf := it_t c_17 hf
      exact hj40  hf _ _ _ (lv_sub hl [0] rfl) hP hD hS
    · replace hf := it_f c_17 hf
      refine lv_aload_n (pc := 20) hx hb dX12_noteThing_20 rfl (lv_at hl 0 rfl) ?_
      refine lv_iload_n (pc := 21) hx hb dX12_noteThing_21 rfl (lv_at hl 3 rfl) ?_
      obtain ⟨r_22, hc_22, hf⟩ := bd1 hf
      refine r_dalVi (pc := 22) (ws' := (wX12_noteThing E h h_inn h_tape h_far h_from h_real h_other h_kept h_set h_w h_book h_noteSort h_whose h_what h_noteIs h_fitting h_dawn h_likes h_walked h_came h_inn_creak h_inn_doorA h_inn_doorB h_inn_how h_inn_lies h_inn_isCold h_inn_falls h_inn_isFull h_inn_isTold h_inn_act h_inn_what h_inn_then h_inn_met h_inn_bed h_inn_dream h_inn_listens h_inn_name h_inn_nameSort h_inn_nameNumber 0 v_trouble v_where v_read v_taped v_size v_at v_sort v_place v_sign v_number v_fault v_wrongAt v_word v_marks v_notes v_inn_minutes v_inn_rooms v_inn_doors v_inn_things v_inn_dreams v_inn_sleepers v_inn_listeners v_inn_names v_book v_noteSort v_whose v_what v_noteIs)) (As := [.int p2]) (rest := []) C (ctX12_isRoom l E h h_inn h_tape h_far h_from h_real h_other h_kept h_set h_w h_book h_noteSort h_whose h_what h_noteIs h_fitting h_dawn h_likes h_walked h_came h_inn_creak h_inn_doorA h_inn_doorB h_inn_how h_inn_lies h_inn_isCold h_inn_falls h_inn_isFull h_inn_isTold h_inn_act h_inn_what h_inn_then h_inn_met h_inn_bed h_inn_dream h_inn_listens h_inn_name h_inn_nameSort h_inn_nameNumber 0 v_trouble v_where v_read v_taped v_size v_at v_sort v_place v_sign v_number v_fault v_wrongAt v_word v_marks v_notes v_inn_minutes v_inn_rooms v_inn_doors v_inn_things v_inn_dreams v_inn_sleepers v_inn_listeners v_inn_names N p2 r_22 hc_22) ml_X12_379 ⟨Nat.le_of_ble_eq_true rfl, Nat.le_of_ble_eq_true rfl⟩ hP hD hS 0 rfl rfl rfl [0, 1] [7, 8, 2, 3, 4, 5, 6] 7 rfl rfl rfl rfl rfl rfl rfl hl.1 rfl (Nat.le_of_ble_eq_true rfl) ⟨Nat.zero_le _, Nat.zero_le _⟩ dX12_noteThing_22 ?_
      clear hP hD hS; intro H locs hP hD hS
      refine lv_if_eq (pc := 25) (tgt := 40) hx hb dX12_noteThing_25 (by decide) (fun c_25 => ?_) (fun c_25 => ?_)
      · replace hf := it_t c_25 hf
        exact hj40  hf _ _ _ (lv_sub hl [0] rfl) hP hD hS
      · replace hf := it_f c_25 hf
        refine lv_aload_n (pc := 28) hx hb dX12_noteThing_28 rfl (lv_at hl 0 rfl) ?_
        refine lv_iload_n (pc := 29) hx hb dX12_noteThing_29 rfl (lv_at hl 1 rfl) ?_
        refine lv_iconst (pc := 30) (v := 1) hx hb dX12_noteThing_30 (by decide) ?_
        refine lv_iload_n (pc := 31) hx hb dX12_noteThing_31 rfl (lv_at hl 2 rfl) ?_
        refine lv_iload_n (pc := 32) hx hb dX12_noteThing_32 rfl (lv_at hl 3 rfl) ?_
        refine lv_iconst (pc := 33) (v := 1) hx hb dX12_noteThing_33 (by decide) ?_
        obtain ⟨r_34, v_trouble_34, v_where_34, v_notes_34, v_book_34, v_noteSort_34, v_whose_34, v_what_34, v_noteIs_34, hc_34, hf⟩ := bd9 hf
        refine r_dalVi (pc := 34) (ws' := (wX12_noteThing E h h_inn h_tape h_far h_from h_real h_other h_kept h_set h_w h_book h_noteSort h_whose h_what h_noteIs h_fitting h_dawn h_likes h_walked h_came h_inn_creak h_inn_doorA h_inn_doorB h_inn_how h_inn_lies h_inn_isCold h_inn_falls h_inn_isFull h_inn_isTold h_inn_act h_inn_what h_inn_then h_inn_met h_inn_bed h_inn_dream h_inn_listens h_inn_name h_inn_nameSort h_inn_nameNumber 0 v_trouble_34 v_where_34 v_read v_taped v_size v_at v_sort v_place v_sign v_number v_fault v_wrongAt v_word v_marks v_notes_34 v_inn_minutes v_inn_rooms v_inn_doors v_inn_things v_inn_dreams v_inn_sleepers v_inn_listeners v_inn_names v_book_34 v_noteSort_34 v_whose_34 v_what_34 v_noteIs_34)) (As := [.int p0, .int 1, .int p1, .int p2, .int 1]) (rest := []) C (ctX12_notesDown l E h h_tape h_far h_from h_real h_other h_kept h_set h_w h_book h_noteSort h_whose h_what h_noteIs h_fitting h_dawn h_likes h_walked h_came 0 v_trouble v_where (some h_inn) v_read v_taped v_size v_at v_sort v_place v_sign v_number v_fault v_wrongAt v_word v_marks v_notes v_book v_noteSort v_whose v_what v_noteIs N p0 1 p1 p2 1 (r_34, v_trouble_34, v_where_34, v_notes_34, v_book_34, v_noteSort_34, v_whose_34, v_what_34, v_noteIs_34) hc_34) ml_X12_448 ⟨Nat.le_of_ble_eq_true rfl, Nat.le_of_ble_eq_true rfl⟩ hP hD hS 0 rfl rfl rfl [0, 2, 3, 4, 5, 6] [7, 1, 8, 9, 10, 11, 12] 7 rfl rfl rfl rfl rfl rfl rfl hl.1 rfl (Nat.le_of_ble_eq_true rfl) ⟨Nat.zero_le _, Nat.zero_le _⟩ dX12_noteThing_34 ?_
        clear hP hD hS; intro H locs hP hD hS
        refine lv_goto (pc := 37) (tgt := 45) hx hb dX12_noteThing_37 (by decide) ?_
        cases hf
        rw [hQ]
        exact r_iret C hr hP hD hS rfl dX12_noteThing_45
def wX12_noteThing0 (E : EN) (h h_tape h_far h_from h_real h_other h_kept h_set h_w h_book h_noteSort h_whose h_what h_noteIs h_fitting h_dawn h_likes h_walked h_came : Nat) (v_thrown : Int32) (v_trouble : Int32) (v_where : Int32) (v_read : Option Nat) (v_taped : Int32) (v_size : Int32) (v_at : Int32) (v_sort : Int32) (v_place : Int32) (v_sign : Int32) (v_number : Int32) (v_fault : Int32) (v_wrongAt : Int32) (v_word : Int64) (v_marks : Int32) (v_notes : Int32) (v_book : Nat → Int32) (v_noteSort : Nat → Int32) (v_whose : Nat → Int32) (v_what : Nat → Int32) (v_noteIs : Nat → Int32) : va_W := [(h, .inr (11, [.int v_thrown, .int v_trouble, .int v_where, .null, va_rf v_read, .ref h_tape, .int v_taped, .int v_size, .int v_at, .int v_sort, .int v_place, .int v_sign, .int v_number, .int v_fault, .int v_wrongAt, .long v_word, .ref h_far, .ref h_from, .ref h_real, .ref h_other, .ref h_kept, .ref h_set, .ref h_w, .int v_marks, .int v_notes, .ref h_book, .ref h_noteSort, .ref h_whose, .ref h_what, .ref h_noteIs, .ref h_fitting, .ref h_dawn, .ref h_likes, .ref h_walked, .ref h_came])), (h_book, aI E 20 v_book), (h_noteSort, aI E 20 v_noteSort), (h_whose, aI E 20 v_whose), (h_what, aI E 20 v_what), (h_noteIs, aZ E 20 v_noteIs)]
def fX12_noteThing0 (N : Nat) (p0 : Int32) (p1 : Int32) (p2 : Int32) (v_notes : Int32) (v_book : Nat → Int32) (v_noteSort : Nat → Int32) (v_whose : Nat → Int32) (v_what : Nat → Int32) (v_noteIs : Nat → Int32) : Option (Int32 × Int32 × Int32 × Int32 × Int32 × (Nat → Int32) × (Nat → Int32) × (Nat → Int32) × (Nat → Int32) × (Nat → Int32)) := (fX12_isBook N p0).bind (un1 fun (r_6 : Int32) => jn (un0 ((fX12_refused N 1).bind (un3 fun (r_42 : Int32) (v_trouble_42 : Int32) (v_where_42 : Int32) => some (r_42, 0, v_trouble_42, v_where_42, v_notes, v_book, v_noteSort, v_whose, v_what, v_noteIs)))) (fun j40 => if r_6 = 0 then (j40 ()) else ((fX12_isThing0 N).bind (un1 fun (r_14 : Int32) => if r_14 = 0 then (j40 ()) else ((fX12_isRoom0 N).bind (un1 fun (r_22 : Int32) => if r_22 = 0 then (j40 ()) else ((fX12_notesDown N p0 1 p1 p2 1 v_notes v_book v_noteSort v_whose v_what v_noteIs).bind (un9 fun (r_34 : Int32) (v_trouble_34 : Int32) (v_where_34 : Int32) (v_notes_34 : Int32) (v_book_34 : Nat → Int32) (v_noteSort_34 : Nat → Int32) (v_whose_34 : Nat → Int32) (v_what_34 : Nat → Int32) (v_noteIs_34 : Nat → Int32) => some (r_34, 0, v_trouble_34, v_where_34, v_notes_34, v_book_34, v_noteSort_34, v_whose_34, v_what_34, v_noteIs_34)))))))))
set_option maxHeartbeats 4000000 in
set_option maxRecDepth 100000 in
theorem ctX12_noteThing0 (l : Launch) (E : EN) (h h_tape h_far h_from h_real h_other h_kept h_set h_w h_book h_noteSort h_whose h_what h_noteIs h_fitting h_dawn h_likes h_walked h_came : Nat) (v_thrown : Int32) (v_trouble : Int32) (v_where : Int32) (v_read : Option Nat) (v_taped : Int32) (v_size : Int32) (v_at : Int32) (v_sort : Int32) (v_place : Int32) (v_sign : Int32) (v_number : Int32) (v_fault : Int32) (v_wrongAt : Int32) (v_word : Int64) (v_marks : Int32) (v_notes : Int32) (v_book : Nat → Int32) (v_noteSort : Nat → Int32) (v_whose : Nat → Int32) (v_what : Nat → Int32) (v_noteIs : Nat → Int32) (N : Nat) (p0 : Int32) (p1 : Int32) (p2 : Int32) (z : Int32 × Int32 × Int32 × Int32 × Int32 × (Nat → Int32) × (Nat → Int32) × (Nat → Int32) × (Nat → Int32) × (Nat → Int32)) (hf : fX12_noteThing0 N p0 p1 p2 v_notes v_book v_noteSort v_whose v_what v_noteIs = some z) : CTi l E yX12_noteThing cX12_noteThing 4 .int 2 46 [.ref h, .int p0, .int p1, .int p2] (wX12_noteThing0 E h h_tape h_far h_from h_real h_other h_kept h_set h_w h_book h_noteSort h_whose h_what h_noteIs h_fitting h_dawn h_likes h_walked h_came v_thrown v_trouble v_where v_read v_taped v_size v_at v_sort v_place v_sign v_number v_fault v_wrongAt v_word v_marks v_notes v_book v_noteSort v_whose v_what v_noteIs) (z.1) (wX12_noteThing0 E h h_tape h_far h_from h_real h_other h_kept h_set h_w h_book h_noteSort h_whose h_what h_noteIs h_fitting h_dawn h_likes h_walked h_came z.2.1 z.2.2.1 z.2.2.2.1 v_read v_taped v_size v_at v_sort v_place v_sign v_number v_fault v_wrongAt v_word v_marks z.2.2.2.2.1 z.2.2.2.2.2.1 z.2.2.2.2.2.2.1 z.2.2.2.2.2.2.2.1 z.2.2.2.2.2.2.2.2.1 z.2.2.2.2.2.2.2.2.2) := by
  intro sz
  refine ct_body (by decide) (Nat.le_of_ble_eq_true rfl) ?_
  intro p e s m args below meth c A ls hAe C hr hin hP hD hS hl
  have C : CX p s m args meth c cX12_noteThing RX12 4 E A := C
  have hl : lv_has ls 4 [(0, .ref h), (1, .int p0), (2, .int p1), (3, .int p2)] := hl
  have hx := C.1
  have hb := C.2.1
  rw [hAe]
  clear hAe
  obtain ⟨Q, hQ⟩ : ∃ Q, Q = MQ below (Qi E A (z.1) (wX12_noteThing0 E h h_tape h_far h_from h_real h_other h_kept h_set h_w h_book h_noteSort h_whose h_what h_noteIs h_fitting h_dawn h_likes h_walked h_came z.2.1 z.2.2.1 z.2.2.2.1 v_read v_taped v_size v_at v_sort v_place v_sign v_number v_fault v_wrongAt v_word v_marks z.2.2.2.2.1 z.2.2.2.2.2.1 z.2.2.2.2.2.2.1 z.2.2.2.2.2.2.2.1 z.2.2.2.2.2.2.2.2.1 z.2.2.2.2.2.2.2.2.2)) args s 0 0 A := ⟨_, rfl⟩
  rw [← hQ]
  unfold fX12_noteThing0 at hf
  refine lv_aload_n (pc := 0) hx hb dX12_noteThing_0 rfl (lv_at hl 0 rfl) ?_
  refine lv_iconst (pc := 1) (v := 0) hx hb dX12_noteThing_1 (by decide) ?_
  refine r_put (pc := 2) (ws' := (wX12_noteThing0 E h h_tape h_far h_from h_real h_other h_kept h_set h_w h_book h_noteSort h_whose h_what h_noteIs h_fitting h_dawn h_likes h_walked h_came 0 v_trouble v_where v_read v_taped v_size v_at v_sort v_place v_sign v_number v_fault v_wrongAt v_word v_marks v_notes v_book v_noteSort v_whose v_what v_noteIs)) C hP hD hS 0 rfl fl_X12_71 rfl rfl (Nat.le_of_ble_eq_true rfl) rfl dX12_noteThing_2 ?_
  clear hP hD hS; intro H locs hP hD hS
  refine lv_iload_n (pc := 5) hx hb dX12_noteThing_5 rfl (lv_at hl 1 rfl) ?_
  obtain ⟨r_6, hc_6, hf⟩ := bd1 hf
  refine r_dalSi (pc := 6) (Cn := "") (h := 0) (ws' := (wX12_noteThing0 E h h_tape h_far h_from h_real h_other h_kept h_set h_w h_book h_noteSort h_whose h_what h_noteIs h_fitting h_dawn h_likes h_walked h_came 0 v_trouble v_where v_read v_taped v_size v_at v_sort v_place v_sign v_number v_fault v_wrongAt v_word v_marks v_notes v_book v_noteSort v_whose v_what v_noteIs)) (As := [.int p0]) (rest := []) C (ctX12_isBook l E N p0 r_6 hc_6) ml_X12_445 ⟨Nat.le_of_ble_eq_true rfl, Nat.le_of_ble_eq_true rfl⟩ hP hD hS [] [0, 1, 2, 3, 4, 5] 6 rfl rfl rfl rfl rfl rfl rfl hl.1 rfl (Nat.le_of_ble_eq_true rfl) ⟨Nat.zero_le _, Nat.zero_le _⟩ dX12_noteThing_6 ?_
  clear hP hD hS; intro H locs hP hD hS
  refine jnK hf (fun j40 ej40 hf => ?_)
  have hj40 : j40 () = some z → AT p l e (rmOf 2 46) s m args below meth c E A Q 0 0 4 [(0, .ref h)] (wX12_noteThing0 E h h_tape h_far h_from h_real h_other h_kept h_set h_w h_book h_noteSort h_whose h_what h_noteIs h_fitting h_dawn h_likes h_walked h_came 0 v_trouble v_where v_read v_taped v_size v_at v_sort v_place v_sign v_number v_fault v_wrongAt v_word v_marks v_notes v_book v_noteSort v_whose v_what v_noteIs) 40 [] := by
    intro  hf H locs ls hl hP hD hS
    rw [ej40] at hf
    replace hf := un0_s hf
    refine lv_aload_n (pc := 40) hx hb dX12_noteThing_40 rfl (lv_at hl 0 rfl) ?_
    refine lv_iconst (pc := 41) (v := 1) hx hb dX12_noteThing_41 (by decide) ?_
    obtain ⟨r_42, v_trouble_42, v_where_42, hc_42, hf⟩ := bd3 hf
    refine r_dalVi (pc := 42) (ws' := (wX12_noteThing0 E h h_tape h_far h_from h_real h_other h_kept h_set h_w h_book h_noteSort h_whose h_what h_noteIs h_fitting h_dawn h_likes h_walked h_came 0 v_trouble_42 v_where_42 v_read v_taped v_size v_at v_sort v_place v_sign v_number v_fault v_wrongAt v_word v_marks v_notes v_book v_noteSort v_whose v_what v_noteIs)) (As := [.int 1]) (rest := []) C (ctX12_refused l E h h_tape h_far h_from h_real h_other h_kept h_set h_w h_book h_noteSort h_whose h_what h_noteIs h_fitting h_dawn h_likes h_walked h_came 0 v_trouble v_where none v_read v_taped v_size v_at v_sort v_place v_sign v_number v_fault v_wrongAt v_word v_marks v_notes N 1 (r_42, v_trouble_42, v_where_42) hc_42) ml_X12_77 ⟨Nat.le_of_ble_eq_true rfl, Nat.le_of_ble_eq_true rfl⟩ hP hD hS 0 rfl rfl rfl [0] [6, 1, 2, 3, 4, 5] 6 rfl rfl rfl rfl rfl rfl rfl hl.1 rfl (Nat.le_of_ble_eq_true rfl) ⟨Nat.zero_le _, Nat.zero_le _⟩ dX12_noteThing_42 ?_
    clear hP hD hS; intro H locs hP hD hS
    cases hf
    rw [hQ]
    exact r_iret C hr hP hD hS rfl dX12_noteThing_45
  clear ej40
  refine lv_if_eq (pc := 9) (tgt := 40) hx hb dX12_noteThing_9 (by decide) (fun c_9 => ?_) (fun c_9 => ?_)
  · replace hf := it_t c_9 hf
    exact hj40  hf _ _ _ (lv_sub hl [0] rfl) hP hD hS
  · replace hf := it_f c_9 hf
    refine lv_aload_n (pc := 12) hx hb dX12_noteThing_12 rfl (lv_at hl 0 rfl) ?_
    refine lv_iload_n (pc := 13) hx hb dX12_noteThing_13 rfl (lv_at hl 2 rfl) ?_
    obtain ⟨r_14, hc_14, hf⟩ := bd1 hf
    refine r_dalVi (pc := 14) (ws' := (wX12_noteThing0 E h h_tape h_far h_from h_real h_other h_kept h_set h_w h_book h_noteSort h_whose h_what h_noteIs h_fitting h_dawn h_likes h_walked h_came 0 v_trouble v_where v_read v_taped v_size v_at v_sort v_place v_sign v_number v_fault v_wrongAt v_word v_marks v_notes v_book v_noteSort v_whose v_what v_noteIs)) (As := [.int p1]) (rest := []) C (ctX12_isThing0 l E h h_tape h_far h_from h_real h_other h_kept h_set h_w h_book h_noteSort h_whose h_what h_noteIs h_fitting h_dawn h_likes h_walked h_came 0 v_trouble v_where v_read v_taped v_size v_at v_sort v_place v_sign v_number v_fault v_wrongAt v_word v_marks v_notes N p1 r_14 hc_14) ml_X12_430 ⟨Nat.le_of_ble_eq_true rfl, Nat.le_of_ble_eq_true rfl⟩ hP hD hS 0 rfl rfl rfl [0] [6, 1, 2, 3, 4, 5] 6 rfl rfl rfl rfl rfl rfl rfl hl.1 rfl (Nat.le_of_ble_eq_true rfl) ⟨Nat.zero_le _, Nat.zero_le _⟩ dX12_noteThing_14 ?_
    clear hP hD hS; intro H locs hP hD hS
    refine lv_if_eq (pc := 17) (tgt := 40) hx hb dX12_noteThing_17 (by decide) (fun c_17 => ?_) (fun c_17 => ?_)
    · replace hf := it_t c_17 hf
      exact hj40  hf _ _ _ (lv_sub hl [0] rfl) hP hD hS
    · replace hf := it_f c_17 hf
      refine lv_aload_n (pc := 20) hx hb dX12_noteThing_20 rfl (lv_at hl 0 rfl) ?_
      refine lv_iload_n (pc := 21) hx hb dX12_noteThing_21 rfl (lv_at hl 3 rfl) ?_
      obtain ⟨r_22, hc_22, hf⟩ := bd1 hf
      refine r_dalVi (pc := 22) (ws' := (wX12_noteThing0 E h h_tape h_far h_from h_real h_other h_kept h_set h_w h_book h_noteSort h_whose h_what h_noteIs h_fitting h_dawn h_likes h_walked h_came 0 v_trouble v_where v_read v_taped v_size v_at v_sort v_place v_sign v_number v_fault v_wrongAt v_word v_marks v_notes v_book v_noteSort v_whose v_what v_noteIs)) (As := [.int p2]) (rest := []) C (ctX12_isRoom0 l E h h_tape h_far h_from h_real h_other h_kept h_set h_w h_book h_noteSort h_whose h_what h_noteIs h_fitting h_dawn h_likes h_walked h_came 0 v_trouble v_where v_read v_taped v_size v_at v_sort v_place v_sign v_number v_fault v_wrongAt v_word v_marks v_notes N p2 r_22 hc_22) ml_X12_379 ⟨Nat.le_of_ble_eq_true rfl, Nat.le_of_ble_eq_true rfl⟩ hP hD hS 0 rfl rfl rfl [0] [6, 1, 2, 3, 4, 5] 6 rfl rfl rfl rfl rfl rfl rfl hl.1 rfl (Nat.le_of_ble_eq_true rfl) ⟨Nat.zero_le _, Nat.zero_le _⟩ dX12_noteThing_22 ?_
      clear hP hD hS; intro H locs hP hD hS
      refine lv_if_eq (pc := 25) (tgt := 40) hx hb dX12_noteThing_25 (by decide) (fun c_25 => ?_) (fun c_25 => ?_)
      · replace hf := it_t c_25 hf
        exact hj40  hf _ _ _ (lv_sub hl [0] rfl) hP hD hS
      · replace hf := it_f c_25 hf
        refine lv_aload_n (pc := 28) hx hb dX12_noteThing_28 rfl (lv_at hl 0 rfl) ?_
        refine lv_iload_n (pc := 29) hx hb dX12_noteThing_29 rfl (lv_at hl 1 rfl) ?_
        refine lv_iconst (pc := 30) (v := 1) hx hb dX12_noteThing_30 (by decide) ?_
        refine lv_iload_n (pc := 31) hx hb dX12_noteThing_31 rfl (lv_at hl 2 rfl) ?_
        refine lv_iload_n (pc := 32) hx hb dX12_noteThing_32 rfl (lv_at hl 3 rfl) ?_
        refine lv_iconst (pc := 33) (v := 1) hx hb dX12_noteThing_33 (by decide) ?_
        obtain ⟨r_34, v_trouble_34, v_where_34, v_notes_34, v_book_34, v_noteSort_34, v_whose_34, v_what_34, v_noteIs_34, hc_34, hf⟩ := bd9 hf
        refine r_dalVi (pc := 34) (ws' := (wX12_noteThing0 E h h_tape h_far h_from h_real h_other h_kept h_set h_w h_book h_noteSort h_whose h_what h_noteIs h_fitting h_dawn h_likes h_walked h_came 0 v_trouble_34 v_where_34 v_read v_taped v_size v_at v_sort v_place v_sign v_number v_fault v_wrongAt v_word v_marks v_notes_34 v_book_34 v_noteSort_34 v_whose_34 v_what_34 v_noteIs_34)) (As := [.int p0, .int 1, .int p1, .int p2, .int 1]) (rest := []) C (ctX12_notesDown l E h h_tape h_far h_from h_real h_other h_kept h_set h_w h_book h_noteSort h_whose h_what h_noteIs h_fitting h_dawn h_likes h_walked h_came 0 v_trouble v_where none v_read v_taped v_size v_at v_sort v_place v_sign v_number v_fault v_wrongAt v_word v_marks v_notes v_book v_noteSort v_whose v_what v_noteIs N p0 1 p1 p2 1 (r_34, v_trouble_34, v_where_34, v_notes_34, v_book_34, v_noteSort_34, v_whose_34, v_what_34, v_noteIs_34) hc_34) ml_X12_448 ⟨Nat.le_of_ble_eq_true rfl, Nat.le_of_ble_eq_true rfl⟩ hP hD hS 0 rfl rfl rfl [0, 1, 2, 3, 4, 5] [6, 7, 8, 9, 10, 11] 6 rfl rfl rfl rfl rfl rfl rfl hl.1 rfl (Nat.le_of_ble_eq_true rfl) ⟨Nat.zero_le _, Nat.zero_le _⟩ dX12_noteThing_34 ?_
        clear hP hD hS; intro H locs hP hD hS
        refine lv_goto (pc := 37) (tgt := 45) hx hb dX12_noteThing_37 (by decide) ?_
        cases hf
        rw [hQ]
        exact r_iret C hr hP hD hS rfl dX12_noteThing_45
def wX12_noteDoor (E : EN) (h h_inn h_tape h_far h_from h_real h_other h_kept h_set h_w h_book h_noteSort h_whose h_what h_noteIs h_fitting h_dawn h_likes h_walked h_came h_inn_creak h_inn_doorA h_inn_doorB h_inn_how h_inn_lies h_inn_isCold h_inn_falls h_inn_isFull h_inn_isTold h_inn_act h_inn_what h_inn_then h_inn_met h_inn_bed h_inn_dream h_inn_listens h_inn_name h_inn_nameSort h_inn_nameNumber : Nat) (v_thrown : Int32) (v_trouble : Int32) (v_where : Int32) (v_read : Option Nat) (v_taped : Int32) (v_size : Int32) (v_at : Int32) (v_sort : Int32) (v_place : Int32) (v_sign : Int32) (v_number : Int32) (v_fault : Int32) (v_wrongAt : Int32) (v_word : Int64) (v_marks : Int32) (v_notes : Int32) (v_inn_minutes : Int32) (v_inn_rooms : Int32) (v_inn_doors : Int32) (v_inn_things : Int32) (v_inn_dreams : Int32) (v_inn_sleepers : Int32) (v_inn_listeners : Int32) (v_inn_names : Int32) (v_book : Nat → Int32) (v_noteSort : Nat → Int32) (v_whose : Nat → Int32) (v_what : Nat → Int32) (v_noteIs : Nat → Int32) : va_W := [(h, .inr (11, [.int v_thrown, .int v_trouble, .int v_where, .ref h_inn, va_rf v_read, .ref h_tape, .int v_taped, .int v_size, .int v_at, .int v_sort, .int v_place, .int v_sign, .int v_number, .int v_fault, .int v_wrongAt, .long v_word, .ref h_far, .ref h_from, .ref h_real, .ref h_other, .ref h_kept, .ref h_set, .ref h_w, .int v_marks, .int v_notes, .ref h_book, .ref h_noteSort, .ref h_whose, .ref h_what, .ref h_noteIs, .ref h_fitting, .ref h_dawn, .ref h_likes, .ref h_walked, .ref h_came])), (h_inn, .inr (10, [.int v_inn_minutes, .int v_inn_rooms, .int v_inn_doors, .int v_inn_things, .int v_inn_dreams, .int v_inn_sleepers, .int v_inn_listeners, .int v_inn_names, .ref h_inn_creak, .ref h_inn_doorA, .ref h_inn_doorB, .ref h_inn_how, .ref h_inn_lies, .ref h_inn_isCold, .ref h_inn_falls, .ref h_inn_isFull, .ref h_inn_isTold, .ref h_inn_act, .ref h_inn_what, .ref h_inn_then, .ref h_inn_met, .ref h_inn_bed, .ref h_inn_dream, .ref h_inn_listens, .ref h_inn_name, .ref h_inn_nameSort, .ref h_inn_nameNumber])), (h_book, aI E 20 v_book), (h_noteSort, aI E 20 v_noteSort), (h_whose, aI E 20 v_whose), (h_what, aI E 20 v_what), (h_noteIs, aZ E 20 v_noteIs)]
def fX12_noteDoor (N : Nat) (p0 : Int32) (p1 : Int32) (p2 : Int32) (v_notes : Int32) (v_inn_doors : Int32) (v_book : Nat → Int32) (v_noteSort : Nat → Int32) (v_whose : Nat → Int32) (v_what : Nat → Int32) (v_noteIs : Nat → Int32) : Option (Int32 × Int32 × Int32 × Int32 × Int32 × (Nat → Int32) × (Nat → Int32) × (Nat → Int32) × (Nat → Int32) × (Nat → Int32)) := (fX12_isBook N p0).bind (un1 fun (r_6 : Int32) => if r_6 = 0 then ((fX12_refused N 1).bind (un3 fun (r_22 : Int32) (v_trouble_22 : Int32) (v_where_22 : Int32) => some (r_22, 0, v_trouble_22, v_where_22, v_notes, v_book, v_noteSort, v_whose, v_what, v_noteIs))) else ((fX12_isDoor N p1 v_inn_doors).bind (un1 fun (r_14 : Int32) => if r_14 = 0 then ((fX12_refused N 1).bind (un3 fun (r_22 : Int32) (v_trouble_22 : Int32) (v_where_22 : Int32) => some (r_22, 0, v_trouble_22, v_where_22, v_notes, v_book, v_noteSort, v_whose, v_what, v_noteIs))) else ((fX12_in N p2 0 2).bind (un1 fun (r_29 : Int32) => if r_29 = 0 then ((fX12_refused N 2).bind (un3 fun (r_49 : Int32) (v_trouble_49 : Int32) (v_where_49 : Int32) => some (r_49, 0, v_trouble_49, v_where_49, v_notes, v_book, v_noteSort, v_whose, v_what, v_noteIs))) else ((fX12_notesDown N p0 2 p1 p2 1 v_notes v_book v_noteSort v_whose v_what v_noteIs).bind (un9 fun (r_41 : Int32) (v_trouble_41 : Int32) (v_where_41 : Int32) (v_notes_41 : Int32) (v_book_41 : Nat → Int32) (v_noteSort_41 : Nat → Int32) (v_whose_41 : Nat → Int32) (v_what_41 : Nat → Int32) (v_noteIs_41 : Nat → Int32) => some (r_41, 0, v_trouble_41, v_where_41, v_notes_41, v_book_41, v_noteSort_41, v_whose_41, v_what_41, v_noteIs_41))))))))
set_option maxHeartbeats 4000000 in
set_option maxRecDepth 100000 in
theorem ctX12_noteDoor (l : Launch) (E : EN) (h h_inn h_tape h_far h_from h_real h_other h_kept h_set h_w h_book h_noteSort h_whose h_what h_noteIs h_fitting h_dawn h_likes h_walked h_came h_inn_creak h_inn_doorA h_inn_doorB h_inn_how h_inn_lies h_inn_isCold h_inn_falls h_inn_isFull h_inn_isTold h_inn_act h_inn_what h_inn_then h_inn_met h_inn_bed h_inn_dream h_inn_listens h_inn_name h_inn_nameSort h_inn_nameNumber : Nat) (v_thrown : Int32) (v_trouble : Int32) (v_where : Int32) (v_read : Option Nat) (v_taped : Int32) (v_size : Int32) (v_at : Int32) (v_sort : Int32) (v_place : Int32) (v_sign : Int32) (v_number : Int32) (v_fault : Int32) (v_wrongAt : Int32) (v_word : Int64) (v_marks : Int32) (v_notes : Int32) (v_inn_minutes : Int32) (v_inn_rooms : Int32) (v_inn_doors : Int32) (v_inn_things : Int32) (v_inn_dreams : Int32) (v_inn_sleepers : Int32) (v_inn_listeners : Int32) (v_inn_names : Int32) (v_book : Nat → Int32) (v_noteSort : Nat → Int32) (v_whose : Nat → Int32) (v_what : Nat → Int32) (v_noteIs : Nat → Int32) (N : Nat) (p0 : Int32) (p1 : Int32) (p2 : Int32) (z : Int32 × Int32 × Int32 × Int32 × Int32 × (Nat → Int32) × (Nat → Int32) × (Nat → Int32) × (Nat → Int32) × (Nat → Int32)) (hf : fX12_noteDoor N p0 p1 p2 v_notes v_inn_doors v_book v_noteSort v_whose v_what v_noteIs = some z) : CTi l E yX12_noteDoor cX12_noteDoor 4 .int 2 46 [.ref h, .int p0, .int p1, .int p2] (wX12_noteDoor E h h_inn h_tape h_far h_from h_real h_other h_kept h_set h_w h_book h_noteSort h_whose h_what h_noteIs h_fitting h_dawn h_likes h_walked h_came h_inn_creak h_inn_doorA h_inn_doorB h_inn_how h_inn_lies h_inn_isCold h_inn_falls h_inn_isFull h_inn_isTold h_inn_act h_inn_what h_inn_then h_inn_met h_inn_bed h_inn_dream h_inn_listens h_inn_name h_inn_nameSort h_inn_nameNumber v_thrown v_trouble v_where v_read v_taped v_size v_at v_sort v_place v_sign v_number v_fault v_wrongAt v_word v_marks v_notes v_inn_minutes v_inn_rooms v_inn_doors v_inn_things v_inn_dreams v_inn_sleepers v_inn_listeners v_inn_names v_book v_noteSort v_whose v_what v_noteIs) (z.1) (wX12_noteDoor E h h_inn h_tape h_far h_from h_real h_other h_kept h_set h_w h_book h_noteSort h_whose h_what h_noteIs h_fitting h_dawn h_likes h_walked h_came h_inn_creak h_inn_doorA h_inn_doorB h_inn_how h_inn_lies h_inn_isCold h_inn_falls h_inn_isFull h_inn_isTold h_inn_act h_inn_what h_inn_then h_inn_met h_inn_bed h_inn_dream h_inn_listens h_inn_name h_inn_nameSort h_inn_nameNumber z.2.1 z.2.2.1 z.2.2.2.1 v_read v_taped v_size v_at v_sort v_place v_sign v_number v_fault v_wrongAt v_word v_marks z.2.2.2.2.1 v_inn_minutes v_inn_rooms v_inn_doors v_inn_things v_inn_dreams v_inn_sleepers v_inn_listeners v_inn_names z.2.2.2.2.2.1 z.2.2.2.2.2.2.1 z.2.2.2.2.2.2.2.1 z.2.2.2.2.2.2.2.2.1 z.2.2.2.2.2.2.2.2.2) := by
  intro sz
  refine ct_body (by decide) (Nat.le_of_ble_eq_true rfl) ?_
  intro p e s m args below meth c A ls hAe C hr hin hP hD hS hl
  have C : CX p s m args meth c cX12_noteDoor RX12 4 E A := C
  have hl : lv_has ls 4 [(0, .ref h), (1, .int p0), (2, .int p1), (3, .int p2)] := hl
  have hx := C.1
  have hb := C.2.1
  rw [hAe]
  clear hAe
  obtain ⟨Q, hQ⟩ : ∃ Q, Q = MQ below (Qi E A (z.1) (wX12_noteDoor E h h_inn h_tape h_far h_from h_real h_other h_kept h_set h_w h_book h_noteSort h_whose h_what h_noteIs h_fitting h_dawn h_likes h_walked h_came h_inn_creak h_inn_doorA h_inn_doorB h_inn_how h_inn_lies h_inn_isCold h_inn_falls h_inn_isFull h_inn_isTold h_inn_act h_inn_what h_inn_then h_inn_met h_inn_bed h_inn_dream h_inn_listens h_inn_name h_inn_nameSort h_inn_nameNumber z.2.1 z.2.2.1 z.2.2.2.1 v_read v_taped v_size v_at v_sort v_place v_sign v_number v_fault v_wrongAt v_word v_marks z.2.2.2.2.1 v_inn_minutes v_inn_rooms v_inn_doors v_inn_things v_inn_dreams v_inn_sleepers v_inn_listeners v_inn_names z.2.2.2.2.2.1 z.2.2.2.2.2.2.1 z.2.2.2.2.2.2.2.1 z.2.2.2.2.2.2.2.2.1 z.2.2.2.2.2.2.2.2.2)) args s 0 0 A := ⟨_, rfl⟩
  rw [← hQ]
  unfold fX12_noteDoor at hf
  refine lv_aload_n (pc := 0) hx hb dX12_noteDoor_0 rfl (lv_at hl 0 rfl) ?_
  refine lv_iconst (pc := 1) (v := 0) hx hb dX12_noteDoor_1 (by decide) ?_
  refine r_put (pc := 2) (ws' := (wX12_noteDoor E h h_inn h_tape h_far h_from h_real h_other h_kept h_set h_w h_book h_noteSort h_whose h_what h_noteIs h_fitting h_dawn h_likes h_walked h_came h_inn_creak h_inn_doorA h_inn_doorB h_inn_how h_inn_lies h_inn_isCold h_inn_falls h_inn_isFull h_inn_isTold h_inn_act h_inn_what h_inn_then h_inn_met h_inn_bed h_inn_dream h_inn_listens h_inn_name h_inn_nameSort h_inn_nameNumber 0 v_trouble v_where v_read v_taped v_size v_at v_sort v_place v_sign v_number v_fault v_wrongAt v_word v_marks v_notes v_inn_minutes v_inn_rooms v_inn_doors v_inn_things v_inn_dreams v_inn_sleepers v_inn_listeners v_inn_names v_book v_noteSort v_whose v_what v_noteIs)) C hP hD hS 0 rfl fl_X12_71 rfl rfl (Nat.le_of_ble_eq_true rfl) rfl dX12_noteDoor_2 ?_
  clear hP hD hS; intro H locs hP hD hS
  refine lv_iload_n (pc := 5) hx hb dX12_noteDoor_5 rfl (lv_at hl 1 rfl) ?_
  obtain ⟨r_6, hc_6, hf⟩ := bd1 hf
  refine r_dalSi (pc := 6) (Cn := "") (h := 0) (ws' := (wX12_noteDoor E h h_inn h_tape h_far h_from h_real h_other h_kept h_set h_w h_book h_noteSort h_whose h_what h_noteIs h_fitting h_dawn h_likes h_walked h_came h_inn_creak h_inn_doorA h_inn_doorB h_inn_how h_inn_lies h_inn_isCold h_inn_falls h_inn_isFull h_inn_isTold h_inn_act h_inn_what h_inn_then h_inn_met h_inn_bed h_inn_dream h_inn_listens h_inn_name h_inn_nameSort h_inn_nameNumber 0 v_trouble v_where v_read v_taped v_size v_at v_sort v_place v_sign v_number v_fault v_wrongAt v_word v_marks v_notes v_inn_minutes v_inn_rooms v_inn_doors v_inn_things v_inn_dreams v_inn_sleepers v_inn_listeners v_inn_names v_book v_noteSort v_whose v_what v_noteIs)) (As := [.int p0]) (rest := []) C (ctX12_isBook l E N p0 r_6 hc_6) ml_X12_445 ⟨Nat.le_of_ble_eq_true rfl, Nat.le_of_ble_eq_true rfl⟩ hP hD hS [] [0, 1, 2, 3, 4, 5, 6] 7 rfl rfl rfl rfl rfl rfl rfl hl.1 rfl (Nat.le_of_ble_eq_true rfl) ⟨Nat.zero_le _, Nat.zero_le _⟩ dX12_noteDoor_6 ?_
  clear hP hD hS; intro H locs hP hD hS
  refine lv_if_eq (pc := 9) (tgt := 20) hx hb dX12_noteDoor_9 (by decide) (fun c_9 => ?_) (fun c_9 => ?_)
  · replace hf := it_t c_9 hf
    refine lv_aload_n (pc := 20) hx hb dX12_noteDoor_20 rfl (lv_at hl 0 rfl) ?_
    refine lv_iconst (pc := 21) (v := 1) hx hb dX12_noteDoor_21 (by decide) ?_
    obtain ⟨r_22, v_trouble_22, v_where_22, hc_22, hf⟩ := bd3 hf
    refine r_dalVi (pc := 22) (ws' := (wX12_noteDoor E h h_inn h_tape h_far h_from h_real h_other h_kept h_set h_w h_book h_noteSort h_whose h_what h_noteIs h_fitting h_dawn h_likes h_walked h_came h_inn_creak h_inn_doorA h_inn_doorB h_inn_how h_inn_lies h_inn_isCold h_inn_falls h_inn_isFull h_inn_isTold h_inn_act h_inn_what h_inn_then h_inn_met h_inn_bed h_inn_dream h_inn_listens h_inn_name h_inn_nameSort h_inn_nameNumber 0 v_trouble_22 v_where_22 v_read v_taped v_size v_at v_sort v_place v_sign v_number v_fault v_wrongAt v_word v_marks v_notes v_inn_minutes v_inn_rooms v_inn_doors v_inn_things v_inn_dreams v_inn_sleepers v_inn_listeners v_inn_names v_book v_noteSort v_whose v_what v_noteIs)) (As := [.int 1]) (rest := []) C (ctX12_refused l E h h_tape h_far h_from h_real h_other h_kept h_set h_w h_book h_noteSort h_whose h_what h_noteIs h_fitting h_dawn h_likes h_walked h_came 0 v_trouble v_where (some h_inn) v_read v_taped v_size v_at v_sort v_place v_sign v_number v_fault v_wrongAt v_word v_marks v_notes N 1 (r_22, v_trouble_22, v_where_22) hc_22) ml_X12_77 ⟨Nat.le_of_ble_eq_true rfl, Nat.le_of_ble_eq_true rfl⟩ hP hD hS 0 rfl rfl rfl [0] [7, 1, 2, 3, 4, 5, 6] 7 rfl rfl rfl rfl rfl rfl rfl hl.1 rfl (Nat.le_of_ble_eq_true rfl) ⟨Nat.zero_le _, Nat.zero_le _⟩ dX12_noteDoor_22 ?_
    clear hP hD hS; intro H locs hP hD hS
    cases hf
    rw [hQ]
    exact r_iret C hr hP hD hS rfl dX12_noteDoor_25
  · replace hf := it_f c_9 hf
    refine lv_aload_n (pc := 12) hx hb dX12_noteDoor_12 rfl (lv_at hl 0 rfl) ?_
    refine lv_iload_n (pc := 13) hx hb dX12_noteDoor_13 rfl (lv_at hl 2 rfl) ?_
    obtain ⟨r_14, hc_14, hf⟩ := bd1 hf
    refine r_dalVi (pc := 14) (ws' := (wX12_noteDoor E h h_inn h_tape h_far h_from h_real h_other h_kept h_set h_w h_book h_noteSort h_whose h_what h_noteIs h_fitting h_dawn h_likes h_walked h_came h_inn_creak h_inn_doorA h_inn_doorB h_inn_how h_inn_lies h_inn_isCold h_inn_falls h_inn_isFull h_inn_isTold h_inn_act h_inn_what h_inn_then h_inn_met h_inn_bed h_inn_dream h_inn_listens h_inn_name h_inn_nameSort h_inn_nameNumber 0 v_trouble v_where v_read v_taped v_size v_at v_sort v_place v_sign v_number v_fault v_wrongAt v_word v_marks v_notes v_inn_minutes v_inn_rooms v_inn_doors v_inn_things v_inn_dreams v_inn_sleepers v_inn_listeners v_inn_names v_book v_noteSort v_whose v_what v_noteIs)) (As := [.int p1]) (rest := []) C (ctX12_isDoor l E h h_inn h_tape h_far h_from h_real h_other h_kept h_set h_w h_book h_noteSort h_whose h_what h_noteIs h_fitting h_dawn h_likes h_walked h_came h_inn_creak h_inn_doorA h_inn_doorB h_inn_how h_inn_lies h_inn_isCold h_inn_falls h_inn_isFull h_inn_isTold h_inn_act h_inn_what h_inn_then h_inn_met h_inn_bed h_inn_dream h_inn_listens h_inn_name h_inn_nameSort h_inn_nameNumber 0 v_trouble v_where v_read v_taped v_size v_at v_sort v_place v_sign v_number v_fault v_wrongAt v_word v_marks v_notes v_inn_minutes v_inn_rooms v_inn_doors v_inn_things v_inn_dreams v_inn_sleepers v_inn_listeners v_inn_names N p1 r_14 hc_14) ml_X12_433 ⟨Nat.le_of_ble_eq_true rfl, Nat.le_of_ble_eq_true rfl⟩ hP hD hS 0 rfl rfl rfl [0, 1] [7, 8, 2, 3, 4, 5, 6] 7 rfl rfl rfl rfl rfl rfl rfl hl.1 rfl (Nat.le_of_ble_eq_true rfl) ⟨Nat.zero_le _, Nat.zero_le _⟩ dX12_noteDoor_14 ?_
    clear hP hD hS; intro H locs hP hD hS
    refine lv_if_ne (pc := 17) (tgt := 26) hx hb dX12_noteDoor_17 (by decide) (fun c_17 => ?_) (fun c_17 => ?_)
    · replace hf := it_f c_17 hf
      refine lv_iload_n (pc := 26) hx hb dX12_noteDoor_26 rfl (lv_at hl 3 rfl) ?_
      refine lv_iconst (pc := 27) (v := 0) hx hb dX12_noteDoor_27 (by decide) ?_
      refine lv_iconst (pc := 28) (v := 2) hx hb dX12_noteDoor_28 (by decide) ?_
      obtain ⟨r_29, hc_29, hf⟩ := bd1 hf
      refine r_dalSi (pc := 29) (Cn := "") (h := 0) (ws' := (wX12_noteDoor E h h_inn h_tape h_far h_from h_real h_other h_kept h_set h_w h_book h_noteSort h_whose h_what h_noteIs h_fitting h_dawn h_likes h_walked h_came h_inn_creak h_inn_doorA h_inn_doorB h_inn_how h_inn_lies h_inn_isCold h_inn_falls h_inn_isFull h_inn_isTold h_inn_act h_inn_what h_inn_then h_inn_met h_inn_bed h_inn_dream h_inn_listens h_inn_name h_inn_nameSort h_inn_nameNumber 0 v_trouble v_where v_read v_taped v_size v_at v_sort v_place v_sign v_number v_fault v_wrongAt v_word v_marks v_notes v_inn_minutes v_inn_rooms v_inn_doors v_inn_things v_inn_dreams v_inn_sleepers v_inn_listeners v_inn_names v_book v_noteSort v_whose v_what v_noteIs)) (As := [.int p2, .int 0, .int 2]) (rest := []) C (ctX12_in l E N p2 0 2 r_29 hc_29) ml_X12_149 ⟨Nat.le_of_ble_eq_true rfl, Nat.le_of_ble_eq_true rfl⟩ hP hD hS [] [0, 1, 2, 3, 4, 5, 6] 7 rfl rfl rfl rfl rfl rfl rfl hl.1 rfl (Nat.le_of_ble_eq_true rfl) ⟨Nat.zero_le _, Nat.zero_le _⟩ dX12_noteDoor_29 ?_
      clear hP hD hS; intro H locs hP hD hS
      refine lv_if_eq (pc := 32) (tgt := 47) hx hb dX12_noteDoor_32 (by decide) (fun c_32 => ?_) (fun c_32 => ?_)
      · replace hf := it_t c_32 hf
        refine lv_aload_n (pc := 47) hx hb dX12_noteDoor_47 rfl (lv_at hl 0 rfl) ?_
        refine lv_iconst (pc := 48) (v := 2) hx hb dX12_noteDoor_48 (by decide) ?_
        obtain ⟨r_49, v_trouble_49, v_where_49, hc_49, hf⟩ := bd3 hf
        refine r_dalVi (pc := 49) (ws' := (wX12_noteDoor E h h_inn h_tape h_far h_from h_real h_other h_kept h_set h_w h_book h_noteSort h_whose h_what h_noteIs h_fitting h_dawn h_likes h_walked h_came h_inn_creak h_inn_doorA h_inn_doorB h_inn_how h_inn_lies h_inn_isCold h_inn_falls h_inn_isFull h_inn_isTold h_inn_act h_inn_what h_inn_then h_inn_met h_inn_bed h_inn_dream h_inn_listens h_inn_name h_inn_nameSort h_inn_nameNumber 0 v_trouble_49 v_where_49 v_read v_taped v_size v_at v_sort v_place v_sign v_number v_fault v_wrongAt v_word v_marks v_notes v_inn_minutes v_inn_rooms v_inn_doors v_inn_things v_inn_dreams v_inn_sleepers v_inn_listeners v_inn_names v_book v_noteSort v_whose v_what v_noteIs)) (As := [.int 2]) (rest := []) C (ctX12_refused l E h h_tape h_far h_from h_real h_other h_kept h_set h_w h_book h_noteSort h_whose h_what h_noteIs h_fitting h_dawn h_likes h_walked h_came 0 v_trouble v_where (some h_inn) v_read v_taped v_size v_at v_sort v_place v_sign v_number v_fault v_wrongAt v_word v_marks v_notes N 2 (r_49, v_trouble_49, v_where_49) hc_49) ml_X12_77 ⟨Nat.le_of_ble_eq_true rfl, Nat.le_of_ble_eq_true rfl⟩ hP hD hS 0 rfl rfl rfl [0] [7, 1, 2, 3, 4, 5, 6] 7 rfl rfl rfl rfl rfl rfl rfl hl.1 rfl (Nat.le_of_ble_eq_true rfl) ⟨Nat.zero_le _, Nat.zero_le _⟩ dX12_noteDoor_49 ?_
        clear hP hD hS; intro H locs hP hD hS
        cases hf
        rw [hQ]
        exact r_iret C hr hP hD hS rfl dX12_noteDoor_52
      · replace hf := it_f c_32 hf
        refine lv_aload_n (pc := 35) hx hb dX12_noteDoor_35 rfl (lv_at hl 0 rfl) ?_
        refine lv_iload_n (pc := 36) hx hb dX12_noteDoor_36 rfl (lv_at hl 1 rfl) ?_
        refine lv_iconst (pc := 37) (v := 2) hx hb dX12_noteDoor_37 (by decide) ?_
        refine lv_iload_n (pc := 38) hx hb dX12_noteDoor_38 rfl (lv_at hl 2 rfl) ?_
        refine lv_iload_n (pc := 39) hx hb dX12_noteDoor_39 rfl (lv_at hl 3 rfl) ?_
        refine lv_iconst (pc := 40) (v := 1) hx hb dX12_noteDoor_40 (by decide) ?_
        obtain ⟨r_41, v_trouble_41, v_where_41, v_notes_41, v_book_41, v_noteSort_41, v_whose_41, v_what_41, v_noteIs_41, hc_41, hf⟩ := bd9 hf
        refine r_dalVi (pc := 41) (ws' := (wX12_noteDoor E h h_inn h_tape h_far h_from h_real h_other h_kept h_set h_w h_book h_noteSort h_whose h_what h_noteIs h_fitting h_dawn h_likes h_walked h_came h_inn_creak h_inn_doorA h_inn_doorB h_inn_how h_inn_lies h_inn_isCold h_inn_falls h_inn_isFull h_inn_isTold h_inn_act h_inn_what h_inn_then h_inn_met h_inn_bed h_inn_dream h_inn_listens h_inn_name h_inn_nameSort h_inn_nameNumber 0 v_trouble_41 v_where_41 v_read v_taped v_size v_at v_sort v_place v_sign v_number v_fault v_wrongAt v_word v_marks v_notes_41 v_inn_minutes v_inn_rooms v_inn_doors v_inn_things v_inn_dreams v_inn_sleepers v_inn_listeners v_inn_names v_book_41 v_noteSort_41 v_whose_41 v_what_41 v_noteIs_41)) (As := [.int p0, .int 2, .int p1, .int p2, .int 1]) (rest := []) C (ctX12_notesDown l E h h_tape h_far h_from h_real h_other h_kept h_set h_w h_book h_noteSort h_whose h_what h_noteIs h_fitting h_dawn h_likes h_walked h_came 0 v_trouble v_where (some h_inn) v_read v_taped v_size v_at v_sort v_place v_sign v_number v_fault v_wrongAt v_word v_marks v_notes v_book v_noteSort v_whose v_what v_noteIs N p0 2 p1 p2 1 (r_41, v_trouble_41, v_where_41, v_notes_41, v_book_41, v_noteSort_41, v_whose_41, v_what_41, v_noteIs_41) hc_41) ml_X12_448 ⟨Nat.le_of_ble_eq_true rfl, Nat.le_of_ble_eq_true rfl⟩ hP hD hS 0 rfl rfl rfl [0, 2, 3, 4, 5, 6] [7, 1, 8, 9, 10, 11, 12] 7 rfl rfl rfl rfl rfl rfl rfl hl.1 rfl (Nat.le_of_ble_eq_true rfl) ⟨Nat.zero_le _, Nat.zero_le _⟩ dX12_noteDoor_41 ?_
        clear hP hD hS; intro H locs hP hD hS
        refine lv_goto (pc := 44) (tgt := 52) hx hb dX12_noteDoor_44 (by decide) ?_
        cases hf
        rw [hQ]
        exact r_iret C hr hP hD hS rfl dX12_noteDoor_52
    · replace hf := it_t c_17 hf
      refine lv_aload_n (pc := 20) hx hb dX12_noteDoor_20 rfl (lv_at hl 0 rfl) ?_
      refine lv_iconst (pc := 21) (v := 1) hx hb dX12_noteDoor_21 (by decide) ?_
      obtain ⟨r_22, v_trouble_22, v_where_22, hc_22, hf⟩ := bd3 hf
      refine r_dalVi (pc := 22) (ws' := (wX12_noteDoor E h h_inn h_tape h_far h_from h_real h_other h_kept h_set h_w h_book h_noteSort h_whose h_what h_noteIs h_fitting h_dawn h_likes h_walked h_came h_inn_creak h_inn_doorA h_inn_doorB h_inn_how h_inn_lies h_inn_isCold h_inn_falls h_inn_isFull h_inn_isTold h_inn_act h_inn_what h_inn_then h_inn_met h_inn_bed h_inn_dream h_inn_listens h_inn_name h_inn_nameSort h_inn_nameNumber 0 v_trouble_22 v_where_22 v_read v_taped v_size v_at v_sort v_place v_sign v_number v_fault v_wrongAt v_word v_marks v_notes v_inn_minutes v_inn_rooms v_inn_doors v_inn_things v_inn_dreams v_inn_sleepers v_inn_listeners v_inn_names v_book v_noteSort v_whose v_what v_noteIs)) (As := [.int 1]) (rest := []) C (ctX12_refused l E h h_tape h_far h_from h_real h_other h_kept h_set h_w h_book h_noteSort h_whose h_what h_noteIs h_fitting h_dawn h_likes h_walked h_came 0 v_trouble v_where (some h_inn) v_read v_taped v_size v_at v_sort v_place v_sign v_number v_fault v_wrongAt v_word v_marks v_notes N 1 (r_22, v_trouble_22, v_where_22) hc_22) ml_X12_77 ⟨Nat.le_of_ble_eq_true rfl, Nat.le_of_ble_eq_true rfl⟩ hP hD hS 0 rfl rfl rfl [0] [7, 1, 2, 3, 4, 5, 6] 7 rfl rfl rfl rfl rfl rfl rfl hl.1 rfl (Nat.le_of_ble_eq_true rfl) ⟨Nat.zero_le _, Nat.zero_le _⟩ dX12_noteDoor_22 ?_
      clear hP hD hS; intro H locs hP hD hS
      cases hf
      rw [hQ]
      exact r_iret C hr hP hD hS rfl dX12_noteDoor_25
def wX12_noteDoor0 (E : EN) (h h_tape h_far h_from h_real h_other h_kept h_set h_w h_book h_noteSort h_whose h_what h_noteIs h_fitting h_dawn h_likes h_walked h_came : Nat) (v_thrown : Int32) (v_trouble : Int32) (v_where : Int32) (v_read : Option Nat) (v_taped : Int32) (v_size : Int32) (v_at : Int32) (v_sort : Int32) (v_place : Int32) (v_sign : Int32) (v_number : Int32) (v_fault : Int32) (v_wrongAt : Int32) (v_word : Int64) (v_marks : Int32) (v_notes : Int32) (v_book : Nat → Int32) (v_noteSort : Nat → Int32) (v_whose : Nat → Int32) (v_what : Nat → Int32) (v_noteIs : Nat → Int32) : va_W := [(h, .inr (11, [.int v_thrown, .int v_trouble, .int v_where, .null, va_rf v_read, .ref h_tape, .int v_taped, .int v_size, .int v_at, .int v_sort, .int v_place, .int v_sign, .int v_number, .int v_fault, .int v_wrongAt, .long v_word, .ref h_far, .ref h_from, .ref h_real, .ref h_other, .ref h_kept, .ref h_set, .ref h_w, .int v_marks, .int v_notes, .ref h_book, .ref h_noteSort, .ref h_whose, .ref h_what, .ref h_noteIs, .ref h_fitting, .ref h_dawn, .ref h_likes, .ref h_walked, .ref h_came])), (h_book, aI E 20 v_book), (h_noteSort, aI E 20 v_noteSort), (h_whose, aI E 20 v_whose), (h_what, aI E 20 v_what), (h_noteIs, aZ E 20 v_noteIs)]
def fX12_noteDoor0 (N : Nat) (p0 : Int32) (p1 : Int32) (p2 : Int32) (v_notes : Int32) (v_book : Nat → Int32) (v_noteSort : Nat → Int32) (v_whose : Nat → Int32) (v_what : Nat → Int32) (v_noteIs : Nat → Int32) : Option (Int32 × Int32 × Int32 × Int32 × Int32 × (Nat → Int32) × (Nat → Int32) × (Nat → Int32) × (Nat → Int32) × (Nat → Int32)) := (fX12_isBook N p0).bind (un1 fun (r_6 : Int32) => if r_6 = 0 then ((fX12_refused N 1).bind (un3 fun (r_22 : Int32) (v_trouble_22 : Int32) (v_where_22 : Int32) => some (r_22, 0, v_trouble_22, v_where_22, v_notes, v_book, v_noteSort, v_whose, v_what, v_noteIs))) else ((fX12_isDoor0 N).bind (un1 fun (r_14 : Int32) => if r_14 = 0 then ((fX12_refused N 1).bind (un3 fun (r_22 : Int32) (v_trouble_22 : Int32) (v_where_22 : Int32) => some (r_22, 0, v_trouble_22, v_where_22, v_notes, v_book, v_noteSort, v_whose, v_what, v_noteIs))) else ((fX12_in N p2 0 2).bind (un1 fun (r_29 : Int32) => if r_29 = 0 then ((fX12_refused N 2).bind (un3 fun (r_49 : Int32) (v_trouble_49 : Int32) (v_where_49 : Int32) => some (r_49, 0, v_trouble_49, v_where_49, v_notes, v_book, v_noteSort, v_whose, v_what, v_noteIs))) else ((fX12_notesDown N p0 2 p1 p2 1 v_notes v_book v_noteSort v_whose v_what v_noteIs).bind (un9 fun (r_41 : Int32) (v_trouble_41 : Int32) (v_where_41 : Int32) (v_notes_41 : Int32) (v_book_41 : Nat → Int32) (v_noteSort_41 : Nat → Int32) (v_whose_41 : Nat → Int32) (v_what_41 : Nat → Int32) (v_noteIs_41 : Nat → Int32) => some (r_41, 0, v_trouble_41, v_where_41, v_notes_41, v_book_41, v_noteSort_41, v_whose_41, v_what_41, v_noteIs_41))))))))
set_option maxHeartbeats 4000000 in
set_option maxRecDepth 100000 in
theorem ctX12_noteDoor0 (l : Launch) (E : EN) (h h_tape h_far h_from h_real h_other h_kept h_set h_w h_book h_noteSort h_whose h_what h_noteIs h_fitting h_dawn h_likes h_walked h_came : Nat) (v_thrown : Int32) (v_trouble : Int32) (v_where : Int32) (v_read : Option Nat) (v_taped : Int32) (v_size : Int32) (v_at : Int32) (v_sort : Int32) (v_place : Int32) (v_sign : Int32) (v_number : Int32) (v_fault : Int32) (v_wrongAt : Int32) (v_word : Int64) (v_marks : Int32) (v_notes : Int32) (v_book : Nat → Int32) (v_noteSort : Nat → Int32) (v_whose : Nat → Int32) (v_what : Nat → Int32) (v_noteIs : Nat → Int32) (N : Nat) (p0 : Int32) (p1 : Int32) (p2 : Int32) (z : Int32 × Int32 × Int32 × Int32 × Int32 × (Nat → Int32) × (Nat → Int32) × (Nat → Int32) × (Nat → Int32) × (Nat → Int32)) (hf : fX12_noteDoor0 N p0 p1 p2 v_notes v_book v_noteSort v_whose v_what v_noteIs = some z) : CTi l E yX12_noteDoor cX12_noteDoor 4 .int 2 46 [.ref h, .int p0, .int p1, .int p2] (wX12_noteDoor0 E h h_tape h_far h_from h_real h_other h_kept h_set h_w h_book h_noteSort h_whose h_what h_noteIs h_fitting h_dawn h_likes h_walked h_came v_thrown v_trouble v_where v_read v_taped v_size v_at v_sort v_place v_sign v_number v_fault v_wrongAt v_word v_marks v_notes v_book v_noteSort v_whose v_what v_noteIs) (z.1) (wX12_noteDoor0 E h h_tape h_far h_from h_real h_other h_kept h_set h_w h_book h_noteSort h_whose h_what h_noteIs h_fitting h_dawn h_likes h_walked h_came z.2.1 z.2.2.1 z.2.2.2.1 v_read v_taped v_size v_at v_sort v_place v_sign v_number v_fault v_wrongAt v_word v_marks z.2.2.2.2.1 z.2.2.2.2.2.1 z.2.2.2.2.2.2.1 z.2.2.2.2.2.2.2.1 z.2.2.2.2.2.2.2.2.1 z.2.2.2.2.2.2.2.2.2) := by
  intro sz
  refine ct_body (by decide) (Nat.le_of_ble_eq_true rfl) ?_
  intro p e s m args below meth c A ls hAe C hr hin hP hD hS hl
  have C : CX p s m args meth c cX12_noteDoor RX12 4 E A := C
  have hl : lv_has ls 4 [(0, .ref h), (1, .int p0), (2, .int p1), (3, .int p2)] := hl
  have hx := C.1
  have hb := C.2.1
  rw [hAe]
  clear hAe
  obtain ⟨Q, hQ⟩ : ∃ Q, Q = MQ below (Qi E A (z.1) (wX12_noteDoor0 E h h_tape h_far h_from h_real h_other h_kept h_set h_w h_book h_noteSort h_whose h_what h_noteIs h_fitting h_dawn h_likes h_walked h_came z.2.1 z.2.2.1 z.2.2.2.1 v_read v_taped v_size v_at v_sort v_place v_sign v_number v_fault v_wrongAt v_word v_marks z.2.2.2.2.1 z.2.2.2.2.2.1 z.2.2.2.2.2.2.1 z.2.2.2.2.2.2.2.1 z.2.2.2.2.2.2.2.2.1 z.2.2.2.2.2.2.2.2.2)) args s 0 0 A := ⟨_, rfl⟩
  rw [← hQ]
  unfold fX12_noteDoor0 at hf
  refine lv_aload_n (pc := 0) hx hb dX12_noteDoor_0 rfl (lv_at hl 0 rfl) ?_
  refine lv_iconst (pc := 1) (v := 0) hx hb dX12_noteDoor_1 (by decide) ?_
  refine r_put (pc := 2) (ws' := (wX12_noteDoor0 E h h_tape h_far h_from h_real h_other h_kept h_set h_w h_book h_noteSort h_whose h_what h_noteIs h_fitting h_dawn h_likes h_walked h_came 0 v_trouble v_where v_read v_taped v_size v_at v_sort v_place v_sign v_number v_fault v_wrongAt v_word v_marks v_notes v_book v_noteSort v_whose v_what v_noteIs)) C hP hD hS 0 rfl fl_X12_71 rfl rfl (Nat.le_of_ble_eq_true rfl) rfl dX12_noteDoor_2 ?_
  clear hP hD hS; intro H locs hP hD hS
  refine lv_iload_n (pc := 5) hx hb dX12_noteDoor_5 rfl (lv_at hl 1 rfl) ?_
  obtain ⟨r_6, hc_6, hf⟩ := bd1 hf
  refine r_dalSi (pc := 6) (Cn := "") (h := 0) (ws' := (wX12_noteDoor0 E h h_tape h_far h_from h_real h_other h_kept h_set h_w h_book h_noteSort h_whose h_what h_noteIs h_fitting h_dawn h_likes h_walked h_came 0 v_trouble v_where v_read v_taped v_size v_at v_sort v_place v_sign v_number v_fault v_wrongAt v_word v_marks v_notes v_book v_noteSort v_whose v_what v_noteIs)) (As := [.int p0]) (rest := []) C (ctX12_isBook l E N p0 r_6 hc_6) ml_X12_445 ⟨Nat.le_of_ble_eq_true rfl, Nat.le_of_ble_eq_true rfl⟩ hP hD hS [] [0, 1, 2, 3, 4, 5] 6 rfl rfl rfl rfl rfl rfl rfl hl.1 rfl (Nat.le_of_ble_eq_true rfl) ⟨Nat.zero_le _, Nat.zero_le _⟩ dX12_noteDoor_6 ?_
  clear hP hD hS; intro H locs hP hD hS
  refine lv_if_eq (pc := 9) (tgt := 20) hx hb dX12_noteDoor_9 (by decide) (fun c_9 => ?_) (fun c_9 => ?_)
  · replace hf := it_t c_9 hf
    refine lv_aload_n (pc := 20) hx hb dX12_noteDoor_20 rfl (lv_at hl 0 rfl) ?_
    refine lv_iconst (pc := 21) (v := 1) hx hb dX12_noteDoor_21 (by decide) ?_
    obtain ⟨r_22, v_trouble_22, v_where_22, hc_22, hf⟩ := bd3 hf
    refine r_dalVi (pc := 22) (ws' := (wX12_noteDoor0 E h h_tape h_far h_from h_real h_other h_kept h_set h_w h_book h_noteSort h_whose h_what h_noteIs h_fitting h_dawn h_likes h_walked h_came 0 v_trouble_22 v_where_22 v_read v_taped v_size v_at v_sort v_place v_sign v_number v_fault v_wrongAt v_word v_marks v_notes v_book v_noteSort v_whose v_what v_noteIs)) (As := [.int 1]) (rest := []) C (ctX12_refused l E h h_tape h_far h_from h_real h_other h_kept h_set h_w h_book h_noteSort h_whose h_what h_noteIs h_fitting h_dawn h_likes h_walked h_came 0 v_trouble v_where none v_read v_taped v_size v_at v_sort v_place v_sign v_number v_fault v_wrongAt v_word v_marks v_notes N 1 (r_22, v_trouble_22, v_where_22) hc_22) ml_X12_77 ⟨Nat.le_of_ble_eq_true rfl, Nat.le_of_ble_eq_true rfl⟩ hP hD hS 0 rfl rfl rfl [0] [6, 1, 2, 3, 4, 5] 6 rfl rfl rfl rfl rfl rfl rfl hl.1 rfl (Nat.le_of_ble_eq_true rfl) ⟨Nat.zero_le _, Nat.zero_le _⟩ dX12_noteDoor_22 ?_
    clear hP hD hS; intro H locs hP hD hS
    cases hf
    rw [hQ]
    exact r_iret C hr hP hD hS rfl dX12_noteDoor_25
  · replace hf := it_f c_9 hf
    refine lv_aload_n (pc := 12) hx hb dX12_noteDoor_12 rfl (lv_at hl 0 rfl) ?_
    refine lv_iload_n (pc := 13) hx hb dX12_noteDoor_13 rfl (lv_at hl 2 rfl) ?_
    obtain ⟨r_14, hc_14, hf⟩ := bd1 hf
    refine r_dalVi (pc := 14) (ws' := (wX12_noteDoor0 E h h_tape h_far h_from h_real h_other h_kept h_set h_w h_book h_noteSort h_whose h_what h_noteIs h_fitting h_dawn h_likes h_walked h_came 0 v_trouble v_where v_read v_taped v_size v_at v_sort v_place v_sign v_number v_fault v_wrongAt v_word v_marks v_notes v_book v_noteSort v_whose v_what v_noteIs)) (As := [.int p1]) (rest := []) C (ctX12_isDoor0 l E h h_tape h_far h_from h_real h_other h_kept h_set h_w h_book h_noteSort h_whose h_what h_noteIs h_fitting h_dawn h_likes h_walked h_came 0 v_trouble v_where v_read v_taped v_size v_at v_sort v_place v_sign v_number v_fault v_wrongAt v_word v_marks v_notes N p1 r_14 hc_14) ml_X12_433 ⟨Nat.le_of_ble_eq_true rfl, Nat.le_of_ble_eq_true rfl⟩ hP hD hS 0 rfl rfl rfl [0] [6, 1, 2, 3, 4, 5] 6 rfl rfl rfl rfl rfl rfl rfl hl.1 rfl (Nat.le_of_ble_eq_true rfl) ⟨Nat.zero_le _, Nat.zero_le _⟩ dX12_noteDoor_14 ?_
    clear hP hD hS; intro H locs hP hD hS
    refine lv_if_ne (pc := 17) (tgt := 26) hx hb dX12_noteDoor_17 (by decide) (fun c_17 => ?_) (fun c_17 => ?_)
    · replace hf := it_f c_17 hf
      refine lv_iload_n (pc := 26) hx hb dX12_noteDoor_26 rfl (lv_at hl 3 rfl) ?_
      refine lv_iconst (pc := 27) (v := 0) hx hb dX12_noteDoor_27 (by decide) ?_
      refine lv_iconst (pc := 28) (v := 2) hx hb dX12_noteDoor_28 (by decide) ?_
      obtain ⟨r_29, hc_29, hf⟩ := bd1 hf
      refine r_dalSi (pc := 29) (Cn := "") (h := 0) (ws' := (wX12_noteDoor0 E h h_tape h_far h_from h_real h_other h_kept h_set h_w h_book h_noteSort h_whose h_what h_noteIs h_fitting h_dawn h_likes h_walked h_came 0 v_trouble v_where v_read v_taped v_size v_at v_sort v_place v_sign v_number v_fault v_wrongAt v_word v_marks v_notes v_book v_noteSort v_whose v_what v_noteIs)) (As := [.int p2, .int 0, .int 2]) (rest := []) C (ctX12_in l E N p2 0 2 r_29 hc_29) ml_X12_149 ⟨Nat.le_of_ble_eq_true rfl, Nat.le_of_ble_eq_true rfl⟩ hP hD hS [] [0, 1, 2, 3, 4, 5] 6 rfl rfl rfl rfl rfl rfl rfl hl.1 rfl (Nat.le_of_ble_eq_true rfl) ⟨Nat.zero_le _, Nat.zero_le _⟩ dX12_noteDoor_29 ?_
      clear hP hD hS; intro H locs hP hD hS
      refine lv_if_eq (pc := 32) (tgt := 47) hx hb dX12_noteDoor_32 (by decide) (fun c_32 => ?_) (fun c_32 => ?_)
      · replace hf := it_t c_32 hf
        refine lv_aload_n (pc := 47) hx hb dX12_noteDoor_47 rfl (lv_at hl 0 rfl) ?_
        refine lv_iconst (pc := 48) (v := 2) hx hb dX12_noteDoor_48 (by decide) ?_
        obtain ⟨r_49, v_trouble_49, v_where_49, hc_49, hf⟩ := bd3 hf
        refine r_dalVi (pc := 49) (ws' := (wX12_noteDoor0 E h h_tape h_far h_from h_real h_other h_kept h_set h_w h_book h_noteSort h_whose h_what h_noteIs h_fitting h_dawn h_likes h_walked h_came 0 v_trouble_49 v_where_49 v_read v_taped v_size v_at v_sort v_place v_sign v_number v_fault v_wrongAt v_word v_marks v_notes v_book v_noteSort v_whose v_what v_noteIs)) (As := [.int 2]) (rest := []) C (ctX12_refused l E h h_tape h_far h_from h_real h_other h_kept h_set h_w h_book h_noteSort h_whose h_what h_noteIs h_fitting h_dawn h_likes h_walked h_came 0 v_trouble v_where none v_read v_taped v_size v_at v_sort v_place v_sign v_number v_fault v_wrongAt v_word v_marks v_notes N 2 (r_49, v_trouble_49, v_where_49) hc_49) ml_X12_77 ⟨Nat.le_of_ble_eq_true rfl, Nat.le_of_ble_eq_true rfl⟩ hP hD hS 0 rfl rfl rfl [0] [6, 1, 2, 3, 4, 5] 6 rfl rfl rfl rfl rfl rfl rfl hl.1 rfl (Nat.le_of_ble_eq_true rfl) ⟨Nat.zero_le _, Nat.zero_le _⟩ dX12_noteDoor_49 ?_
        clear hP hD hS; intro H locs hP hD hS
        cases hf
        rw [hQ]
        exact r_iret C hr hP hD hS rfl dX12_noteDoor_52
      · replace hf := it_f c_32 hf
        refine lv_aload_n (pc := 35) hx hb dX12_noteDoor_35 rfl (lv_at hl 0 rfl) ?_
        refine lv_iload_n (pc := 36) hx hb dX12_noteDoor_36 rfl (lv_at hl 1 rfl) ?_
        refine lv_iconst (pc := 37) (v := 2) hx hb dX12_noteDoor_37 (by decide) ?_
        refine lv_iload_n (pc := 38) hx hb dX12_noteDoor_38 rfl (lv_at hl 2 rfl) ?_
        refine lv_iload_n (pc := 39) hx hb dX12_noteDoor_39 rfl (lv_at hl 3 rfl) ?_
        refine lv_iconst (pc := 40) (v := 1) hx hb dX12_noteDoor_40 (by decide) ?_
        obtain ⟨r_41, v_trouble_41, v_where_41, v_notes_41, v_book_41, v_noteSort_41, v_whose_41, v_what_41, v_noteIs_41, hc_41, hf⟩ := bd9 hf
        refine r_dalVi (pc := 41) (ws' := (wX12_noteDoor0 E h h_tape h_far h_from h_real h_other h_kept h_set h_w h_book h_noteSort h_whose h_what h_noteIs h_fitting h_dawn h_likes h_walked h_came 0 v_trouble_41 v_where_41 v_read v_taped v_size v_at v_sort v_place v_sign v_number v_fault v_wrongAt v_word v_marks v_notes_41 v_book_41 v_noteSort_41 v_whose_41 v_what_41 v_noteIs_41)) (As := [.int p0, .int 2, .int p1, .int p2, .int 1]) (rest := []) C (ctX12_notesDown l E h h_tape h_far h_from h_real h_other h_kept h_set h_w h_book h_noteSort h_whose h_what h_noteIs h_fitting h_dawn h_likes h_walked h_came 0 v_trouble v_where none v_read v_taped v_size v_at v_sort v_place v_sign v_number v_fault v_wrongAt v_word v_marks v_notes v_book v_noteSort v_whose v_what v_noteIs N p0 2 p1 p2 1 (r_41, v_trouble_41, v_where_41, v_notes_41, v_book_41, v_noteSort_41, v_whose_41, v_what_41, v_noteIs_41) hc_41) ml_X12_448 ⟨Nat.le_of_ble_eq_true rfl, Nat.le_of_ble_eq_true rfl⟩ hP hD hS 0 rfl rfl rfl [0, 1, 2, 3, 4, 5] [6, 7, 8, 9, 10, 11] 6 rfl rfl rfl rfl rfl rfl rfl hl.1 rfl (Nat.le_of_ble_eq_true rfl) ⟨Nat.zero_le _, Nat.zero_le _⟩ dX12_noteDoor_41 ?_
        clear hP hD hS; intro H locs hP hD hS
        refine lv_goto (pc := 44) (tgt := 52) hx hb dX12_noteDoor_44 (by decide) ?_
        cases hf
        rw [hQ]
        exact r_iret C hr hP hD hS rfl dX12_noteDoor_52
    · replace hf := it_t c_17 hf
      refine lv_aload_n (pc := 20) hx hb dX12_noteDoor_20 rfl (lv_at hl 0 rfl) ?_
      refine lv_iconst (pc := 21) (v := 1) hx hb dX12_noteDoor_21 (by decide) ?_
      obtain ⟨r_22, v_trouble_22, v_where_22, hc_22, hf⟩ := bd3 hf
      refine r_dalVi (pc := 22) (ws' := (wX12_noteDoor0 E h h_tape h_far h_from h_real h_other h_kept h_set h_w h_book h_noteSort h_whose h_what h_noteIs h_fitting h_dawn h_likes h_walked h_came 0 v_trouble_22 v_where_22 v_read v_taped v_size v_at v_sort v_place v_sign v_number v_fault v_wrongAt v_word v_marks v_notes v_book v_noteSort v_whose v_what v_noteIs)) (As := [.int 1]) (rest := []) C (ctX12_refused l E h h_tape h_far h_from h_real h_other h_kept h_set h_w h_book h_noteSort h_whose h_what h_noteIs h_fitting h_dawn h_likes h_walked h_came 0 v_trouble v_where none v_read v_taped v_size v_at v_sort v_place v_sign v_number v_fault v_wrongAt v_word v_marks v_notes N 1 (r_22, v_trouble_22, v_where_22) hc_22) ml_X12_77 ⟨Nat.le_of_ble_eq_true rfl, Nat.le_of_ble_eq_true rfl⟩ hP hD hS 0 rfl rfl rfl [0] [6, 1, 2, 3, 4, 5] 6 rfl rfl rfl rfl rfl rfl rfl hl.1 rfl (Nat.le_of_ble_eq_true rfl) ⟨Nat.zero_le _, Nat.zero_le _⟩ dX12_noteDoor_22 ?_
      clear hP hD hS; intro H locs hP hD hS
      cases hf
      rw [hQ]
      exact r_iret C hr hP hD hS rfl dX12_noteDoor_25
def wX12_strike (E : EN) (h h_tape h_far h_from h_real h_other h_kept h_set h_w h_book h_noteSort h_whose h_what h_noteIs h_fitting h_dawn h_likes h_walked h_came : Nat) (v_thrown : Int32) (v_trouble : Int32) (v_where : Int32) (v_inn : Option Nat) (v_read : Option Nat) (v_taped : Int32) (v_size : Int32) (v_at : Int32) (v_sort : Int32) (v_place : Int32) (v_sign : Int32) (v_number : Int32) (v_fault : Int32) (v_wrongAt : Int32) (v_word : Int64) (v_marks : Int32) (v_notes : Int32) : va_W := [(h, .inr (11, [.int v_thrown, .int v_trouble, .int v_where, va_rf v_inn, va_rf v_read, .ref h_tape, .int v_taped, .int v_size, .int v_at, .int v_sort, .int v_place, .int v_sign, .int v_number, .int v_fault, .int v_wrongAt, .long v_word, .ref h_far, .ref h_from, .ref h_real, .ref h_other, .ref h_kept, .ref h_set, .ref h_w, .int v_marks, .int v_notes, .ref h_book, .ref h_noteSort, .ref h_whose, .ref h_what, .ref h_noteIs, .ref h_fitting, .ref h_dawn, .ref h_likes, .ref h_walked, .ref h_came]))]
def fX12_strike (N : Nat) (v_notes : Int32) : Option (Int32 × Int32 × Int32 × Int32 × Int32) := if v_notes = 0 then ((fX12_denied N 6).bind (un3 fun (r_15 : Int32) (v_trouble_15 : Int32) (v_where_15 : Int32) => zg r_15 (some (r_15, 0, v_trouble_15, v_where_15, v_notes)))) else ((fX12_granted N).bind (un3 fun (r_30 : Int32) (v_trouble_30 : Int32) (v_where_30 : Int32) => zg r_30 (some (r_30, 0, v_trouble_30, v_where_30, v_notes - 1))))
set_option maxHeartbeats 4000000 in
set_option maxRecDepth 100000 in
theorem ctX12_strike (l : Launch) (E : EN) (h h_tape h_far h_from h_real h_other h_kept h_set h_w h_book h_noteSort h_whose h_what h_noteIs h_fitting h_dawn h_likes h_walked h_came : Nat) (v_thrown : Int32) (v_trouble : Int32) (v_where : Int32) (v_inn : Option Nat) (v_read : Option Nat) (v_taped : Int32) (v_size : Int32) (v_at : Int32) (v_sort : Int32) (v_place : Int32) (v_sign : Int32) (v_number : Int32) (v_fault : Int32) (v_wrongAt : Int32) (v_word : Int64) (v_marks : Int32) (v_notes : Int32) (N : Nat) (z : Int32 × Int32 × Int32 × Int32 × Int32) (hf : fX12_strike N v_notes = some z) : CTi l E yX12_strike cX12_strike 1 .boolean 2 42 [.ref h] (wX12_strike E h h_tape h_far h_from h_real h_other h_kept h_set h_w h_book h_noteSort h_whose h_what h_noteIs h_fitting h_dawn h_likes h_walked h_came v_thrown v_trouble v_where v_inn v_read v_taped v_size v_at v_sort v_place v_sign v_number v_fault v_wrongAt v_word v_marks v_notes) (z.1) (wX12_strike E h h_tape h_far h_from h_real h_other h_kept h_set h_w h_book h_noteSort h_whose h_what h_noteIs h_fitting h_dawn h_likes h_walked h_came z.2.1 z.2.2.1 z.2.2.2.1 v_inn v_read v_taped v_size v_at v_sort v_place v_sign v_number v_fault v_wrongAt v_word v_marks z.2.2.2.2) := by
  intro sz
  refine ct_body (by decide) (Nat.le_of_ble_eq_true rfl) ?_
  intro p e s m args below meth c A ls hAe C hr hin hP hD hS hl
  have C : CX p s m args meth c cX12_strike RX12 1 E A := C
  have hl : lv_has ls 1 [(0, .ref h)] := hl
  have hx := C.1
  have hb := C.2.1
  rw [hAe]
  clear hAe
  obtain ⟨Q, hQ⟩ : ∃ Q, Q = MQ below (Qi E A (z.1) (wX12_strike E h h_tape h_far h_from h_real h_other h_kept h_set h_w h_book h_noteSort h_whose h_what h_noteIs h_fitting h_dawn h_likes h_walked h_came z.2.1 z.2.2.1 z.2.2.2.1 v_inn v_read v_taped v_size v_at v_sort v_place v_sign v_number v_fault v_wrongAt v_word v_marks z.2.2.2.2)) args s 0 0 A := ⟨_, rfl⟩
  rw [← hQ]
  unfold fX12_strike at hf
  refine lv_aload_n (pc := 0) hx hb dX12_strike_0 rfl (lv_at hl 0 rfl) ?_
  refine lv_iconst (pc := 1) (v := 0) hx hb dX12_strike_1 (by decide) ?_
  refine r_put (pc := 2) (ws' := (wX12_strike E h h_tape h_far h_from h_real h_other h_kept h_set h_w h_book h_noteSort h_whose h_what h_noteIs h_fitting h_dawn h_likes h_walked h_came 0 v_trouble v_where v_inn v_read v_taped v_size v_at v_sort v_place v_sign v_number v_fault v_wrongAt v_word v_marks v_notes)) C hP hD hS 0 rfl fl_X12_71 rfl rfl (Nat.le_of_ble_eq_true rfl) rfl dX12_strike_2 ?_
  clear hP hD hS; intro H locs hP hD hS
  refine lv_aload_n (pc := 5) hx hb dX12_strike_5 rfl (lv_at hl 0 rfl) ?_
  refine r_get (pc := 6) C hP 0 rfl fl_X12_360 rfl dX12_strike_6 ?_
  refine lv_if_ne (pc := 9) (tgt := 19) hx hb dX12_strike_9 (by decide) (fun c_9 => ?_) (fun c_9 => ?_)
  · replace hf := it_f c_9 hf
    refine lv_aload_n (pc := 19) hx hb dX12_strike_19 rfl (lv_at hl 0 rfl) ?_
    refine lv_dup (pc := 20) hx hb dX12_strike_20 rfl ?_
    refine r_get (pc := 21) C hP 0 rfl fl_X12_360 rfl dX12_strike_21 ?_
    refine lv_iconst (pc := 24) (v := 1) hx hb dX12_strike_24 (by decide) ?_
    refine lv_isub (pc := 25) hx hb dX12_strike_25 ?_
    refine r_put (pc := 26) (ws' := (wX12_strike E h h_tape h_far h_from h_real h_other h_kept h_set h_w h_book h_noteSort h_whose h_what h_noteIs h_fitting h_dawn h_likes h_walked h_came 0 v_trouble v_where v_inn v_read v_taped v_size v_at v_sort v_place v_sign v_number v_fault v_wrongAt v_word v_marks (v_notes - 1))) C hP hD hS 0 rfl fl_X12_360 rfl rfl (Nat.le_of_ble_eq_true rfl) rfl dX12_strike_26 ?_
    clear hP hD hS; intro H locs hP hD hS
    refine lv_aload_n (pc := 29) hx hb dX12_strike_29 rfl (lv_at hl 0 rfl) ?_
    obtain ⟨r_30, v_trouble_30, v_where_30, hc_30, hf⟩ := bd3 hf
    refine r_dalVi (pc := 30) (ws' := (wX12_strike E h h_tape h_far h_from h_real h_other h_kept h_set h_w h_book h_noteSort h_whose h_what h_noteIs h_fitting h_dawn h_likes h_walked h_came 0 v_trouble_30 v_where_30 v_inn v_read v_taped v_size v_at v_sort v_place v_sign v_number v_fault v_wrongAt v_word v_marks (v_notes - 1))) (As := []) (rest := []) C (ctX12_granted l E h h_tape h_far h_from h_real h_other h_kept h_set h_w h_book h_noteSort h_whose h_what h_noteIs h_fitting h_dawn h_likes h_walked h_came 0 v_trouble v_where v_inn v_read v_taped v_size v_at v_sort v_place v_sign v_number v_fault v_wrongAt v_word v_marks (v_notes - 1) N (r_30, v_trouble_30, v_where_30) hc_30) ml_X12_418 ⟨Nat.le_of_ble_eq_true rfl, Nat.le_of_ble_eq_true rfl⟩ hP hD hS 0 rfl rfl rfl [0] [1] 1 rfl rfl rfl rfl rfl rfl rfl hl.1 rfl (Nat.le_of_ble_eq_true rfl) ⟨Nat.zero_le _, Nat.zero_le _⟩ dX12_strike_30 ?_
    clear hP hD hS; intro H locs hP hD hS
    obtain ⟨hz_33, hf⟩ := zg_s hf
    cases hf
    rw [hQ]
    exact r_zret C hr hP hD hS hz_33 rfl dX12_strike_33
  · replace hf := it_t c_9 hf
    refine lv_aload_n (pc := 12) hx hb dX12_strike_12 rfl (lv_at hl 0 rfl) ?_
    refine lv_bipush (pc := 13) (v := 6) hx hb dX12_strike_13 (by decide) ?_
    obtain ⟨r_15, v_trouble_15, v_where_15, hc_15, hf⟩ := bd3 hf
    refine r_dalVi (pc := 15) (ws' := (wX12_strike E h h_tape h_far h_from h_real h_other h_kept h_set h_w h_book h_noteSort h_whose h_what h_noteIs h_fitting h_dawn h_likes h_walked h_came 0 v_trouble_15 v_where_15 v_inn v_read v_taped v_size v_at v_sort v_place v_sign v_number v_fault v_wrongAt v_word v_marks v_notes)) (As := [.int 6]) (rest := []) C (ctX12_denied l E h h_tape h_far h_from h_real h_other h_kept h_set h_w h_book h_noteSort h_whose h_what h_noteIs h_fitting h_dawn h_likes h_walked h_came 0 v_trouble v_where v_inn v_read v_taped v_size v_at v_sort v_place v_sign v_number v_fault v_wrongAt v_word v_marks v_notes N 6 (r_15, v_trouble_15, v_where_15) hc_15) ml_X12_415 ⟨Nat.le_of_ble_eq_true rfl, Nat.le_of_ble_eq_true rfl⟩ hP hD hS 0 rfl rfl rfl [0] [1] 1 rfl rfl rfl rfl rfl rfl rfl hl.1 rfl (Nat.le_of_ble_eq_true rfl) ⟨Nat.zero_le _, Nat.zero_le _⟩ dX12_strike_15 ?_
    clear hP hD hS; intro H locs hP hD hS
    obtain ⟨hz_18, hf⟩ := zg_s hf
    cases hf
    rw [hQ]
    exact r_zret C hr hP hD hS hz_18 rfl dX12_strike_18
def wX12_isNoted (E : EN) (h h_tape h_far h_from h_real h_other h_kept h_set h_w h_book h_noteSort h_whose h_what h_noteIs h_fitting h_dawn h_likes h_walked h_came : Nat) (v_thrown : Int32) (v_trouble : Int32) (v_where : Int32) (v_inn : Option Nat) (v_read : Option Nat) (v_taped : Int32) (v_size : Int32) (v_at : Int32) (v_sort : Int32) (v_place : Int32) (v_sign : Int32) (v_number : Int32) (v_fault : Int32) (v_wrongAt : Int32) (v_word : Int64) (v_marks : Int32) (v_notes : Int32) (v_noteSort : Nat → Int32) (v_whose : Nat → Int32) (v_w : Nat → Int32) (v_what : Nat → Int32) (v_noteIs : Nat → Int32) : va_W := [(h, .inr (11, [.int v_thrown, .int v_trouble, .int v_where, va_rf v_inn, va_rf v_read, .ref h_tape, .int v_taped, .int v_size, .int v_at, .int v_sort, .int v_place, .int v_sign, .int v_number, .int v_fault, .int v_wrongAt, .long v_word, .ref h_far, .ref h_from, .ref h_real, .ref h_other, .ref h_kept, .ref h_set, .ref h_w, .int v_marks, .int v_notes, .ref h_book, .ref h_noteSort, .ref h_whose, .ref h_what, .ref h_noteIs, .ref h_fitting, .ref h_dawn, .ref h_likes, .ref h_walked, .ref h_came])), (h_noteSort, aI E 20 v_noteSort), (h_whose, aI E 20 v_whose), (h_w, aI E 51 v_w), (h_what, aI E 20 v_what), (h_noteIs, aZ E 20 v_noteIs)]
def fX12_isNoted (N : Nat) (p0 : Int32) (v_noteSort : Nat → Int32) (v_whose : Nat → Int32) (v_w : Nat → Int32) (v_what : Nat → Int32) (v_noteIs : Nat → Int32) : Option Int32 := gd p0 20 (if (v_noteSort p0.toNatClampNeg) = 0 then (gd p0 20 (gd p0 20 ((fX12_hears N (v_whose p0.toNatClampNeg) (v_what p0.toNatClampNeg) v_w).bind (un1 fun (r_22 : Int32) => gd p0 20 (if r_22 = (v_noteIs p0.toNatClampNeg) then (some 1) else (some 0)))))) else (gd p0 20 (jn (un1 fun (x61_s1 : Int32) => gd p0 20 (gd (x61_s1 + (v_whose p0.toNatClampNeg)) 51 (gd p0 20 (if (v_w (x61_s1 + (v_whose p0.toNatClampNeg)).toNatClampNeg) = (v_what p0.toNatClampNeg) then (some 1) else (some 0))))) (fun j61 => if (v_noteSort p0.toNatClampNeg) = 1 then (j61 15) else (j61 23)))))
set_option maxHeartbeats 4000000 in
set_option maxRecDepth 100000 in
theorem ctX12_isNoted (l : Launch) (E : EN) (h h_tape h_far h_from h_real h_other h_kept h_set h_w h_book h_noteSort h_whose h_what h_noteIs h_fitting h_dawn h_likes h_walked h_came : Nat) (v_thrown : Int32) (v_trouble : Int32) (v_where : Int32) (v_inn : Option Nat) (v_read : Option Nat) (v_taped : Int32) (v_size : Int32) (v_at : Int32) (v_sort : Int32) (v_place : Int32) (v_sign : Int32) (v_number : Int32) (v_fault : Int32) (v_wrongAt : Int32) (v_word : Int64) (v_marks : Int32) (v_notes : Int32) (v_noteSort : Nat → Int32) (v_whose : Nat → Int32) (v_w : Nat → Int32) (v_what : Nat → Int32) (v_noteIs : Nat → Int32) (N : Nat) (p0 : Int32) (z : Int32) (hf : fX12_isNoted N p0 v_noteSort v_whose v_w v_what v_noteIs = some z) : CTi l E yX12_isNoted cX12_isNoted 2 .boolean 2 43 [.ref h, .int p0] (wX12_isNoted E h h_tape h_far h_from h_real h_other h_kept h_set h_w h_book h_noteSort h_whose h_what h_noteIs h_fitting h_dawn h_likes h_walked h_came v_thrown v_trouble v_where v_inn v_read v_taped v_size v_at v_sort v_place v_sign v_number v_fault v_wrongAt v_word v_marks v_notes v_noteSort v_whose v_w v_what v_noteIs) (z) (wX12_isNoted E h h_tape h_far h_from h_real h_other h_kept h_set h_w h_book h_noteSort h_whose h_what h_noteIs h_fitting h_dawn h_likes h_walked h_came v_thrown v_trouble v_where v_inn v_read v_taped v_size v_at v_sort v_place v_sign v_number v_fault v_wrongAt v_word v_marks v_notes v_noteSort v_whose v_w v_what v_noteIs) := by
  intro sz
  refine ct_body (by decide) (Nat.le_of_ble_eq_true rfl) ?_
  intro p e s m args below meth c A ls hAe C hr hin hP hD hS hl
  have C : CX p s m args meth c cX12_isNoted RX12 2 E A := C
  have hl : lv_has ls 2 [(0, .ref h), (1, .int p0)] := hl
  have hx := C.1
  have hb := C.2.1
  rw [hAe]
  clear hAe
  obtain ⟨Q, hQ⟩ : ∃ Q, Q = MQ below (Qi E A (z) (wX12_isNoted E h h_tape h_far h_from h_real h_other h_kept h_set h_w h_book h_noteSort h_whose h_what h_noteIs h_fitting h_dawn h_likes h_walked h_came v_thrown v_trouble v_where v_inn v_read v_taped v_size v_at v_sort v_place v_sign v_number v_fault v_wrongAt v_word v_marks v_notes v_noteSort v_whose v_w v_what v_noteIs)) args s 0 0 A := ⟨_, rfl⟩
  rw [← hQ]
  unfold fX12_isNoted at hf
  refine lv_aload_n (pc := 0) hx hb dX12_isNoted_0 rfl (lv_at hl 0 rfl) ?_
  refine r_get (pc := 1) C hP 0 rfl fl_X12_42 rfl dX12_isNoted_1 ?_
  refine lv_iload_n (pc := 4) hx hb dX12_isNoted_4 rfl (lv_at hl 1 rfl) ?_
  obtain ⟨hi_5, hf⟩ := gd_s hf
  refine r_iald (pc := 5) C hP 1 rfl hi_5 dX12_isNoted_5 ?_
  refine lv_if_ne (pc := 6) (tgt := 40) hx hb dX12_isNoted_6 (by decide) (fun c_6 => ?_) (fun c_6 => ?_)
  · replace hf := it_f c_6 hf
    refine lv_aload_n (pc := 40) hx hb dX12_isNoted_40 rfl (lv_at hl 0 rfl) ?_
    refine r_get (pc := 41) C hP 0 rfl fl_X12_36 rfl dX12_isNoted_41 ?_
    refine lv_aload_n (pc := 44) hx hb dX12_isNoted_44 rfl (lv_at hl 0 rfl) ?_
    refine r_get (pc := 45) C hP 0 rfl fl_X12_42 rfl dX12_isNoted_45 ?_
    refine lv_iload_n (pc := 48) hx hb dX12_isNoted_48 rfl (lv_at hl 1 rfl) ?_
    obtain ⟨hi_49, hf⟩ := gd_s hf
    refine r_iald (pc := 49) C hP 1 rfl hi_49 dX12_isNoted_49 ?_
    refine lv_iconst (pc := 50) (v := 1) hx hb dX12_isNoted_50 (by decide) ?_
    refine jnK hf (fun j61 ej61 hf => ?_)
    have hj61 : ∀ (x61_s1 : Int32) , j61 x61_s1 = some z → AT p l e (rmOf 2 43) s m args below meth c E A Q 0 0 2 [(0, .ref h), (1, .int p0)] (wX12_isNoted E h h_tape h_far h_from h_real h_other h_kept h_set h_w h_book h_noteSort h_whose h_what h_noteIs h_fitting h_dawn h_likes h_walked h_came v_thrown v_trouble v_where v_inn v_read v_taped v_size v_at v_sort v_place v_sign v_number v_fault v_wrongAt v_word v_marks v_notes v_noteSort v_whose v_w v_what v_noteIs) 61 [.int x61_s1, .ref h_w] := by
      intro x61_s1 hf H locs ls hl hP hD hS
      rw [ej61] at hf
      replace hf := un1_s hf
      refine lv_aload_n (pc := 61) hx hb dX12_isNoted_61 rfl (lv_at hl 0 rfl) ?_
      refine r_get (pc := 62) C hP 0 rfl fl_X12_45 rfl dX12_isNoted_62 ?_
      refine lv_iload_n (pc := 65) hx hb dX12_isNoted_65 rfl (lv_at hl 1 rfl) ?_
      obtain ⟨hi_66, hf⟩ := gd_s hf
      refine r_iald (pc := 66) C hP 2 rfl hi_66 dX12_isNoted_66 ?_
      refine lv_iadd (pc := 67) hx hb dX12_isNoted_67 ?_
      obtain ⟨hi_68, hf⟩ := gd_s hf
      refine r_iald (pc := 68) C hP 3 rfl hi_68 dX12_isNoted_68 ?_
      refine lv_aload_n (pc := 69) hx hb dX12_isNoted_69 rfl (lv_at hl 0 rfl) ?_
      refine r_get (pc := 70) C hP 0 rfl fl_X12_48 rfl dX12_isNoted_70 ?_
      refine lv_iload_n (pc := 73) hx hb dX12_isNoted_73 rfl (lv_at hl 1 rfl) ?_
      obtain ⟨hi_74, hf⟩ := gd_s hf
      refine r_iald (pc := 74) C hP 4 rfl hi_74 dX12_isNoted_74 ?_
      refine lv_icmp_ne (pc := 75) (tgt := 82) hx hb dX12_isNoted_75 (by decide) (fun c_75 => ?_) (fun c_75 => ?_)
      · replace hf := it_f c_75 hf
        refine lv_iconst (pc := 82) (v := 0) hx hb dX12_isNoted_82 (by decide) ?_
        cases hf
        rw [hQ]
        exact r_zret C hr hP hD hS (Or.inl rfl) rfl dX12_isNoted_83
      · replace hf := it_t c_75 hf
        refine lv_iconst (pc := 78) (v := 1) hx hb dX12_isNoted_78 (by decide) ?_
        refine lv_goto (pc := 79) (tgt := 83) hx hb dX12_isNoted_79 (by decide) ?_
        cases hf
        rw [hQ]
        exact r_zret C hr hP hD hS (Or.inr rfl) rfl dX12_isNoted_83
    clear ej61
    refine lv_icmp_ne (pc := 51) (tgt := 59) hx hb dX12_isNoted_51 (by decide) (fun c_51 => ?_) (fun c_51 => ?_)
    · replace hf := it_f c_51 hf
      refine lv_bipush (pc := 59) (v := 23) hx hb dX12_isNoted_59 (by decide) ?_
      exact hj61 23 hf _ _ _ (lv_sub hl [0, 1] rfl) hP hD hS
    · replace hf := it_t c_51 hf
      refine lv_bipush (pc := 54) (v := 15) hx hb dX12_isNoted_54 (by decide) ?_
      refine lv_goto (pc := 56) (tgt := 61) hx hb dX12_isNoted_56 (by decide) ?_
      exact hj61 15 hf _ _ _ (lv_sub hl [0, 1] rfl) hP hD hS
  · replace hf := it_t c_6 hf
    refine lv_aload_n (pc := 9) hx hb dX12_isNoted_9 rfl (lv_at hl 0 rfl) ?_
    refine lv_aload_n (pc := 10) hx hb dX12_isNoted_10 rfl (lv_at hl 0 rfl) ?_
    refine r_get (pc := 11) C hP 0 rfl fl_X12_45 rfl dX12_isNoted_11 ?_
    refine lv_iload_n (pc := 14) hx hb dX12_isNoted_14 rfl (lv_at hl 1 rfl) ?_
    obtain ⟨hi_15, hf⟩ := gd_s hf
    refine r_iald (pc := 15) C hP 2 rfl hi_15 dX12_isNoted_15 ?_
    refine lv_aload_n (pc := 16) hx hb dX12_isNoted_16 rfl (lv_at hl 0 rfl) ?_
    refine r_get (pc := 17) C hP 0 rfl fl_X12_48 rfl dX12_isNoted_17 ?_
    refine lv_iload_n (pc := 20) hx hb dX12_isNoted_20 rfl (lv_at hl 1 rfl) ?_
    obtain ⟨hi_21, hf⟩ := gd_s hf
    refine r_iald (pc := 21) C hP 4 rfl hi_21 dX12_isNoted_21 ?_
    obtain ⟨r_22, hc_22, hf⟩ := bd1 hf
    refine r_dalVi (pc := 22) (ws' := (wX12_isNoted E h h_tape h_far h_from h_real h_other h_kept h_set h_w h_book h_noteSort h_whose h_what h_noteIs h_fitting h_dawn h_likes h_walked h_came v_thrown v_trouble v_where v_inn v_read v_taped v_size v_at v_sort v_place v_sign v_number v_fault v_wrongAt v_word v_marks v_notes v_noteSort v_whose v_w v_what v_noteIs)) (As := [.int (v_whose p0.toNatClampNeg), .int (v_what p0.toNatClampNeg)]) (rest := []) C (ctX12_hears l E h h_tape h_far h_from h_real h_other h_kept h_set h_w h_book h_noteSort h_whose h_what h_noteIs h_fitting h_dawn h_likes h_walked h_came v_thrown v_trouble v_where v_inn v_read v_taped v_size v_at v_sort v_place v_sign v_number v_fault v_wrongAt v_word v_marks v_notes v_w N (v_whose p0.toNatClampNeg) (v_what p0.toNatClampNeg) r_22 hc_22) ml_X12_439 ⟨Nat.le_of_ble_eq_true rfl, Nat.le_of_ble_eq_true rfl⟩ hP hD hS 0 rfl rfl rfl [0, 3] [6, 1, 2, 7, 4, 5] 6 rfl rfl rfl rfl rfl rfl rfl hl.1 rfl (Nat.le_of_ble_eq_true rfl) ⟨Nat.zero_le _, Nat.zero_le _⟩ dX12_isNoted_22 ?_
    clear hP hD hS; intro H locs hP hD hS
    refine lv_aload_n (pc := 25) hx hb dX12_isNoted_25 rfl (lv_at hl 0 rfl) ?_
    refine r_get (pc := 26) C hP 0 rfl fl_X12_51 rfl dX12_isNoted_26 ?_
    refine lv_iload_n (pc := 29) hx hb dX12_isNoted_29 rfl (lv_at hl 1 rfl) ?_
    obtain ⟨hi_30, hf⟩ := gd_s hf
    refine r_zald (pc := 30) C hP 5 rfl hi_30 dX12_isNoted_30 ?_
    refine lv_icmp_ne (pc := 31) (tgt := 38) hx hb dX12_isNoted_31 (by decide) (fun c_31 => ?_) (fun c_31 => ?_)
    · replace hf := it_f c_31 hf
      refine lv_iconst (pc := 38) (v := 0) hx hb dX12_isNoted_38 (by decide) ?_
      cases hf
      rw [hQ]
      exact r_zret C hr hP hD hS (Or.inl rfl) rfl dX12_isNoted_39
    · replace hf := it_t c_31 hf
      refine lv_iconst (pc := 34) (v := 1) hx hb dX12_isNoted_34 (by decide) ?_
      refine lv_goto (pc := 35) (tgt := 39) hx hb dX12_isNoted_35 (by decide) ?_
      cases hf
      rw [hQ]
      exact r_zret C hr hP hD hS (Or.inr rfl) rfl dX12_isNoted_39
def wX12_castMany (E : EN) (h h_inn h_tape h_far h_from h_real h_other h_kept h_set h_w h_book h_noteSort h_whose h_what h_noteIs h_fitting h_dawn h_likes h_walked h_came h_inn_creak h_inn_doorA h_inn_doorB h_inn_how h_inn_lies h_inn_isCold h_inn_falls h_inn_isFull h_inn_isTold h_inn_act h_inn_what h_inn_then h_inn_met h_inn_bed h_inn_dream h_inn_listens h_inn_name h_inn_nameSort h_inn_nameNumber : Nat) (v_thrown : Int32) (v_trouble : Int32) (v_where : Int32) (v_read : Option Nat) (v_taped : Int32) (v_size : Int32) (v_at : Int32) (v_sort : Int32) (v_place : Int32) (v_sign : Int32) (v_number : Int32) (v_fault : Int32) (v_wrongAt : Int32) (v_word : Int64) (v_marks : Int32) (v_notes : Int32) (v_inn_minutes : Int32) (v_inn_rooms : Int32) (v_inn_doors : Int32) (v_inn_things : Int32) (v_inn_dreams : Int32) (v_inn_sleepers : Int32) (v_inn_listeners : Int32) (v_inn_names : Int32) : va_W := [(h, .inr (11, [.int v_thrown, .int v_trouble, .int v_where, .ref h_inn, va_rf v_read, .ref h_tape, .int v_taped, .int v_size, .int v_at, .int v_sort, .int v_place, .int v_sign, .int v_number, .int v_fault, .int v_wrongAt, .long v_word, .ref h_far, .ref h_from, .ref h_real, .ref h_other, .ref h_kept, .ref h_set, .ref h_w, .int v_marks, .int v_notes, .ref h_book, .ref h_noteSort, .ref h_whose, .ref h_what, .ref h_noteIs, .ref h_fitting, .ref h_dawn, .ref h_likes, .ref h_walked, .ref h_came])), (h_inn, .inr (10, [.int v_inn_minutes, .int v_inn_rooms, .int v_inn_doors, .int v_inn_things, .int v_inn_dreams, .int v_inn_sleepers, .int v_inn_listeners, .int v_inn_names, .ref h_inn_creak, .ref h_inn_doorA, .ref h_inn_doorB, .ref h_inn_how, .ref h_inn_lies, .ref h_inn_isCold, .ref h_inn_falls, .ref h_inn_isFull, .ref h_inn_isTold, .ref h_inn_act, .ref h_inn_what, .ref h_inn_then, .ref h_inn_met, .ref h_inn_bed, .ref h_inn_dream, .ref h_inn_listens, .ref h_inn_name, .ref h_inn_nameSort, .ref h_inn_nameNumber]))]
def BX12_castMany_4 (v_inn_sleepers : Int32) (v_inn_dreams : Int32) (rec4 : (Int32 × Int32) → Option Int32) : (Int32 × Int32) → Option Int32 := un2 fun (x4_1 : Int32) (x4_2 : Int32) => if v_inn_sleepers ≤ x4_2 then (some x4_1) else (rec4 (x4_1 * v_inn_dreams, x4_2 + 1))
def fX12_castMany (N : Nat) (v_inn_dreams : Int32) (v_inn_sleepers : Int32) : Option Int32 := lp (BX12_castMany_4 v_inn_sleepers v_inn_dreams) N (1, 0)
set_option maxHeartbeats 4000000 in
set_option maxRecDepth 100000 in
theorem ctX12_castMany (l : Launch) (E : EN) (h h_inn h_tape h_far h_from h_real h_other h_kept h_set h_w h_book h_noteSort h_whose h_what h_noteIs h_fitting h_dawn h_likes h_walked h_came h_inn_creak h_inn_doorA h_inn_doorB h_inn_how h_inn_lies h_inn_isCold h_inn_falls h_inn_isFull h_inn_isTold h_inn_act h_inn_what h_inn_then h_inn_met h_inn_bed h_inn_dream h_inn_listens h_inn_name h_inn_nameSort h_inn_nameNumber : Nat) (v_thrown : Int32) (v_trouble : Int32) (v_where : Int32) (v_read : Option Nat) (v_taped : Int32) (v_size : Int32) (v_at : Int32) (v_sort : Int32) (v_place : Int32) (v_sign : Int32) (v_number : Int32) (v_fault : Int32) (v_wrongAt : Int32) (v_word : Int64) (v_marks : Int32) (v_notes : Int32) (v_inn_minutes : Int32) (v_inn_rooms : Int32) (v_inn_doors : Int32) (v_inn_things : Int32) (v_inn_dreams : Int32) (v_inn_sleepers : Int32) (v_inn_listeners : Int32) (v_inn_names : Int32) (N : Nat) (z : Int32) (hf : fX12_castMany N v_inn_dreams v_inn_sleepers = some z) : CTi l E yX12_castMany cX12_castMany 3 .int 0 0 [.ref h] (wX12_castMany E h h_inn h_tape h_far h_from h_real h_other h_kept h_set h_w h_book h_noteSort h_whose h_what h_noteIs h_fitting h_dawn h_likes h_walked h_came h_inn_creak h_inn_doorA h_inn_doorB h_inn_how h_inn_lies h_inn_isCold h_inn_falls h_inn_isFull h_inn_isTold h_inn_act h_inn_what h_inn_then h_inn_met h_inn_bed h_inn_dream h_inn_listens h_inn_name h_inn_nameSort h_inn_nameNumber v_thrown v_trouble v_where v_read v_taped v_size v_at v_sort v_place v_sign v_number v_fault v_wrongAt v_word v_marks v_notes v_inn_minutes v_inn_rooms v_inn_doors v_inn_things v_inn_dreams v_inn_sleepers v_inn_listeners v_inn_names) (z) (wX12_castMany E h h_inn h_tape h_far h_from h_real h_other h_kept h_set h_w h_book h_noteSort h_whose h_what h_noteIs h_fitting h_dawn h_likes h_walked h_came h_inn_creak h_inn_doorA h_inn_doorB h_inn_how h_inn_lies h_inn_isCold h_inn_falls h_inn_isFull h_inn_isTold h_inn_act h_inn_what h_inn_then h_inn_met h_inn_bed h_inn_dream h_inn_listens h_inn_name h_inn_nameSort h_inn_nameNumber v_thrown v_trouble v_where v_read v_taped v_size v_at v_sort v_place v_sign v_number v_fault v_wrongAt v_word v_marks v_notes v_inn_minutes v_inn_rooms v_inn_doors v_inn_things v_inn_dreams v_inn_sleepers v_inn_listeners v_inn_names) := by
  intro sz
  refine ct_body (by decide) (Nat.le_of_ble_eq_true rfl) ?_
  intro p e s m args below meth c A ls hAe C hr hin hP hD hS hl
  have C : CX p s m args meth c cX12_castMany RX12 3 E A := C
  have hl : lv_has ls 3 [(0, .ref h)] := hl
  have hx := C.1
  have hb := C.2.1
  rw [hAe]
  clear hAe
  obtain ⟨Q, hQ⟩ : ∃ Q, Q = MQ below (Qi E A (z) (wX12_castMany E h h_inn h_tape h_far h_from h_real h_other h_kept h_set h_w h_book h_noteSort h_whose h_what h_noteIs h_fitting h_dawn h_likes h_walked h_came h_inn_creak h_inn_doorA h_inn_doorB h_inn_how h_inn_lies h_inn_isCold h_inn_falls h_inn_isFull h_inn_isTold h_inn_act h_inn_what h_inn_then h_inn_met h_inn_bed h_inn_dream h_inn_listens h_inn_name h_inn_nameSort h_inn_nameNumber v_thrown v_trouble v_where v_read v_taped v_size v_at v_sort v_place v_sign v_number v_fault v_wrongAt v_word v_marks v_notes v_inn_minutes v_inn_rooms v_inn_doors v_inn_things v_inn_dreams v_inn_sleepers v_inn_listeners v_inn_names)) args s 0 0 A := ⟨_, rfl⟩
  rw [← hQ]
  unfold fX12_castMany at hf
  refine lv_iconst (pc := 0) (v := 1) hx hb dX12_castMany_0 (by decide) ?_
  refine lv_istore_n (pc := 1) (lv' := [(1, .int 1), (0, .ref h)]) hx hb dX12_castMany_1 rfl hl (by decide) rfl (fun ls hl => ?_)
  refine lv_iconst (pc := 2) (v := 0) hx hb dX12_castMany_2 (by decide) ?_
  refine lv_istore_n (pc := 3) (lv' := [(2, .int 0), (1, .int 1), (0, .ref h)]) hx hb dX12_castMany_3 rfl hl (by decide) rfl (fun ls hl => ?_)
  have key4 : ∀ (n : Nat) (x4_1 : Int32) (x4_2 : Int32) , lp (BX12_castMany_4 v_inn_sleepers v_inn_dreams) n (x4_1, x4_2) = some z → AT p l e (rmOf 0 0) s m args below meth c E A Q 0 0 3 [(0, .ref h), (1, .int x4_1), (2, .int x4_2)] (wX12_castMany E h h_inn h_tape h_far h_from h_real h_other h_kept h_set h_w h_book h_noteSort h_whose h_what h_noteIs h_fitting h_dawn h_likes h_walked h_came h_inn_creak h_inn_doorA h_inn_doorB h_inn_how h_inn_lies h_inn_isCold h_inn_falls h_inn_isFull h_inn_isTold h_inn_act h_inn_what h_inn_then h_inn_met h_inn_bed h_inn_dream h_inn_listens h_inn_name h_inn_nameSort h_inn_nameNumber v_thrown v_trouble v_where v_read v_taped v_size v_at v_sort v_place v_sign v_number v_fault v_wrongAt v_word v_marks v_notes v_inn_minutes v_inn_rooms v_inn_doors v_inn_things v_inn_dreams v_inn_sleepers v_inn_listeners v_inn_names) 4 [] := by
    intro n
    induction n with
    | zero => intro x4_1 x4_2 hf; exact (lp_0 hf).elim
    | succ n ih4 =>
      intro x4_1 x4_2 hf H locs ls hl hP hD hS
      replace hf := lp_s hf
      generalize lp (BX12_castMany_4 v_inn_sleepers v_inn_dreams) n = rec4 at ih4 hf
      unfold BX12_castMany_4 at hf
      replace hf := un2_s hf
      refine lv_iload_n (pc := 4) hx hb dX12_castMany_4 rfl (lv_at hl 2 rfl) ?_
      refine lv_aload_n (pc := 5) hx hb dX12_castMany_5 rfl (lv_at hl 0 rfl) ?_
      refine r_get (pc := 6) C hP 0 rfl fl_X12_358 rfl dX12_castMany_6 ?_
      refine r_get (pc := 9) C hP 1 rfl fl_X12_247 rfl dX12_castMany_9 ?_
      refine lv_icmp_ge (pc := 12) (tgt := 31) hx hb dX12_castMany_12 (by decide) (fun c_12 => ?_) (fun c_12 => ?_)
      · replace hf := it_t c_12 hf
        refine lv_iload_n (pc := 31) hx hb dX12_castMany_31 rfl (lv_at hl 1 rfl) ?_
        cases hf
        rw [hQ]
        exact r_iret C hr hP hD hS rfl dX12_castMany_32
      · replace hf := it_f c_12 hf
        refine lv_iload_n (pc := 15) hx hb dX12_castMany_15 rfl (lv_at hl 1 rfl) ?_
        refine lv_aload_n (pc := 16) hx hb dX12_castMany_16 rfl (lv_at hl 0 rfl) ?_
        refine r_get (pc := 17) C hP 0 rfl fl_X12_358 rfl dX12_castMany_17 ?_
        refine r_get (pc := 20) C hP 1 rfl fl_X12_325 rfl dX12_castMany_20 ?_
        refine lv_imul (pc := 23) hx hb dX12_castMany_23 ?_
        refine lv_istore_n (pc := 24) (lv' := [(1, .int (x4_1 * v_inn_dreams)), (0, .ref h), (2, .int x4_2)]) hx hb dX12_castMany_24 rfl hl (by decide) rfl (fun ls hl => ?_)
        refine lv_iinc (pc := 25) (v := x4_2 + 1) (lv' := [(2, .int (x4_2 + 1)), (1, .int (x4_1 * v_inn_dreams)), (0, .ref h)]) hx hb dX12_castMany_25 hl (k := 2) rfl rfl (by decide) rfl (fun ls hl => ?_)
        refine lv_goto (pc := 28) (tgt := 4) hx hb dX12_castMany_28 (by decide) ?_
        exact ih4 (x4_1 * v_inn_dreams) (x4_2 + 1) hf _ _ _ (lv_sub hl [2, 1, 0] rfl) hP hD hS
  exact key4 _ 1 0 hf _ _ _ (lv_sub hl [2, 1, 0] rfl) hP hD hS
def wX12_casts (E : EN) (h h_inn h_tape h_far h_from h_real h_other h_kept h_set h_w h_book h_noteSort h_whose h_what h_noteIs h_fitting h_dawn h_likes h_walked h_came h_inn_creak h_inn_doorA h_inn_doorB h_inn_how h_inn_lies h_inn_isCold h_inn_falls h_inn_isFull h_inn_isTold h_inn_act h_inn_what h_inn_then h_inn_met h_inn_bed h_inn_dream h_inn_listens h_inn_name h_inn_nameSort h_inn_nameNumber : Nat) (v_thrown : Int32) (v_trouble : Int32) (v_where : Int32) (v_read : Option Nat) (v_taped : Int32) (v_size : Int32) (v_at : Int32) (v_sort : Int32) (v_place : Int32) (v_sign : Int32) (v_number : Int32) (v_fault : Int32) (v_wrongAt : Int32) (v_word : Int64) (v_marks : Int32) (v_notes : Int32) (v_inn_minutes : Int32) (v_inn_rooms : Int32) (v_inn_doors : Int32) (v_inn_things : Int32) (v_inn_dreams : Int32) (v_inn_sleepers : Int32) (v_inn_listeners : Int32) (v_inn_names : Int32) (v_w : Nat → Int32) : va_W := [(h, .inr (11, [.int v_thrown, .int v_trouble, .int v_where, .ref h_inn, va_rf v_read, .ref h_tape, .int v_taped, .int v_size, .int v_at, .int v_sort, .int v_place, .int v_sign, .int v_number, .int v_fault, .int v_wrongAt, .long v_word, .ref h_far, .ref h_from, .ref h_real, .ref h_other, .ref h_kept, .ref h_set, .ref h_w, .int v_marks, .int v_notes, .ref h_book, .ref h_noteSort, .ref h_whose, .ref h_what, .ref h_noteIs, .ref h_fitting, .ref h_dawn, .ref h_likes, .ref h_walked, .ref h_came])), (h_inn, .inr (10, [.int v_inn_minutes, .int v_inn_rooms, .int v_inn_doors, .int v_inn_things, .int v_inn_dreams, .int v_inn_sleepers, .int v_inn_listeners, .int v_inn_names, .ref h_inn_creak, .ref h_inn_doorA, .ref h_inn_doorB, .ref h_inn_how, .ref h_inn_lies, .ref h_inn_isCold, .ref h_inn_falls, .ref h_inn_isFull, .ref h_inn_isTold, .ref h_inn_act, .ref h_inn_what, .ref h_inn_then, .ref h_inn_met, .ref h_inn_bed, .ref h_inn_dream, .ref h_inn_listens, .ref h_inn_name, .ref h_inn_nameSort, .ref h_inn_nameNumber])), (h_w, aI E 51 v_w)]
def BX12_casts_12 (v_inn_dreams : Int32) (rec12 : (Int32 × Int32 × (Nat → Int32)) → Option (Nat → Int32)) : (Int32 × Int32 × (Nat → Int32)) → Option (Nat → Int32) := un3 fun (x12_2 : Int32) (x12_3 : Int32) (x12_w : Nat → Int32) => if x12_3 < 0 then (some x12_w) else (dv v_inn_dreams (gd (12 + x12_3) 51 (dv v_inn_dreams (rec12 (x12_2 / v_inn_dreams, x12_3 + (-1), upd x12_w (12 + x12_3).toNatClampNeg (x12_2 - x12_2 / v_inn_dreams * v_inn_dreams))))))
def fX12_casts (N : Nat) (p0 : Int32) (v_inn_dreams : Int32) (v_inn_sleepers : Int32) (v_w : Nat → Int32) : Option (Nat → Int32) := lp (BX12_casts_12 v_inn_dreams) N (p0, v_inn_sleepers - 1, v_w)
set_option maxHeartbeats 4000000 in
set_option maxRecDepth 100000 in
theorem ctX12_casts (l : Launch) (E : EN) (h h_inn h_tape h_far h_from h_real h_other h_kept h_set h_w h_book h_noteSort h_whose h_what h_noteIs h_fitting h_dawn h_likes h_walked h_came h_inn_creak h_inn_doorA h_inn_doorB h_inn_how h_inn_lies h_inn_isCold h_inn_falls h_inn_isFull h_inn_isTold h_inn_act h_inn_what h_inn_then h_inn_met h_inn_bed h_inn_dream h_inn_listens h_inn_name h_inn_nameSort h_inn_nameNumber : Nat) (v_thrown : Int32) (v_trouble : Int32) (v_where : Int32) (v_read : Option Nat) (v_taped : Int32) (v_size : Int32) (v_at : Int32) (v_sort : Int32) (v_place : Int32) (v_sign : Int32) (v_number : Int32) (v_fault : Int32) (v_wrongAt : Int32) (v_word : Int64) (v_marks : Int32) (v_notes : Int32) (v_inn_minutes : Int32) (v_inn_rooms : Int32) (v_inn_doors : Int32) (v_inn_things : Int32) (v_inn_dreams : Int32) (v_inn_sleepers : Int32) (v_inn_listeners : Int32) (v_inn_names : Int32) (v_w : Nat → Int32) (N : Nat) (p0 : Int32) (z : Nat → Int32) (hf : fX12_casts N p0 v_inn_dreams v_inn_sleepers v_w = some z) : CTv l E yX12_casts cX12_casts 4 0 0 [.ref h, .int p0] (wX12_casts E h h_inn h_tape h_far h_from h_real h_other h_kept h_set h_w h_book h_noteSort h_whose h_what h_noteIs h_fitting h_dawn h_likes h_walked h_came h_inn_creak h_inn_doorA h_inn_doorB h_inn_how h_inn_lies h_inn_isCold h_inn_falls h_inn_isFull h_inn_isTold h_inn_act h_inn_what h_inn_then h_inn_met h_inn_bed h_inn_dream h_inn_listens h_inn_name h_inn_nameSort h_inn_nameNumber v_thrown v_trouble v_where v_read v_taped v_size v_at v_sort v_place v_sign v_number v_fault v_wrongAt v_word v_marks v_notes v_inn_minutes v_inn_rooms v_inn_doors v_inn_things v_inn_dreams v_inn_sleepers v_inn_listeners v_inn_names v_w) (wX12_casts E h h_inn h_tape h_far h_from h_real h_other h_kept h_set h_w h_book h_noteSort h_whose h_what h_noteIs h_fitting h_dawn h_likes h_walked h_came h_inn_creak h_inn_doorA h_inn_doorB h_inn_how h_inn_lies h_inn_isCold h_inn_falls h_inn_isFull h_inn_isTold h_inn_act h_inn_what h_inn_then h_inn_met h_inn_bed h_inn_dream h_inn_listens h_inn_name h_inn_nameSort h_inn_nameNumber v_thrown v_trouble v_where v_read v_taped v_size v_at v_sort v_place v_sign v_number v_fault v_wrongAt v_word v_marks v_notes v_inn_minutes v_inn_rooms v_inn_doors v_inn_things v_inn_dreams v_inn_sleepers v_inn_listeners v_inn_names z) := by
  intro sz
  refine ct_body (by decide) (Nat.le_of_ble_eq_true rfl) ?_
  intro p e s m args below meth c A ls hAe C hr hin hP hD hS hl
  have C : CX p s m args meth c cX12_casts RX12 4 E A := C
  have hl : lv_has ls 4 [(0, .ref h), (1, .int p0)] := hl
  have hx := C.1
  have hb := C.2.1
  rw [hAe]
  clear hAe
  obtain ⟨Q, hQ⟩ : ∃ Q, Q = MQ below (Qv E A (wX12_casts E h h_inn h_tape h_far h_from h_real h_other h_kept h_set h_w h_book h_noteSort h_whose h_what h_noteIs h_fitting h_dawn h_likes h_walked h_came h_inn_creak h_inn_doorA h_inn_doorB h_inn_how h_inn_lies h_inn_isCold h_inn_falls h_inn_isFull h_inn_isTold h_inn_act h_inn_what h_inn_then h_inn_met h_inn_bed h_inn_dream h_inn_listens h_inn_name h_inn_nameSort h_inn_nameNumber v_thrown v_trouble v_where v_read v_taped v_size v_at v_sort v_place v_sign v_number v_fault v_wrongAt v_word v_marks v_notes v_inn_minutes v_inn_rooms v_inn_doors v_inn_things v_inn_dreams v_inn_sleepers v_inn_listeners v_inn_names z)) args s 0 0 A := ⟨_, rfl⟩
  rw [← hQ]
  unfold fX12_casts at hf
  refine lv_iload_n (pc := 0) hx hb dX12_casts_0 rfl (lv_at hl 1 rfl) ?_
  refine lv_istore_n (pc := 1) (lv' := [(2, .int p0), (0, .ref h), (1, .int p0)]) hx hb dX12_casts_1 rfl hl (by decide) rfl (fun ls hl => ?_)
  refine lv_aload_n (pc := 2) hx hb dX12_casts_2 rfl (lv_at hl 1 rfl) ?_
  refine r_get (pc := 3) C hP 0 rfl fl_X12_358 rfl dX12_casts_3 ?_
  refine r_get (pc := 6) C hP 1 rfl fl_X12_247 rfl dX12_casts_6 ?_
  refine lv_iconst (pc := 9) (v := 1) hx hb dX12_casts_9 (by decide) ?_
  refine lv_isub (pc := 10) hx hb dX12_casts_10 ?_
  refine lv_istore_n (pc := 11) (lv' := [(3, .int (v_inn_sleepers - 1)), (2, .int p0), (0, .ref h), (1, .int p0)]) hx hb dX12_casts_11 rfl hl (by decide) rfl (fun ls hl => ?_)
  have key12 : ∀ (n : Nat) (x12_2 : Int32) (x12_3 : Int32) (x12_w : Nat → Int32) , lp (BX12_casts_12 v_inn_dreams) n (x12_2, x12_3, x12_w) = some z → AT p l e (rmOf 0 0) s m args below meth c E A Q 0 0 4 [(0, .ref h), (2, .int x12_2), (3, .int x12_3)] (wX12_casts E h h_inn h_tape h_far h_from h_real h_other h_kept h_set h_w h_book h_noteSort h_whose h_what h_noteIs h_fitting h_dawn h_likes h_walked h_came h_inn_creak h_inn_doorA h_inn_doorB h_inn_how h_inn_lies h_inn_isCold h_inn_falls h_inn_isFull h_inn_isTold h_inn_act h_inn_what h_inn_then h_inn_met h_inn_bed h_inn_dream h_inn_listens h_inn_name h_inn_nameSort h_inn_nameNumber v_thrown v_trouble v_where v_read v_taped v_size v_at v_sort v_place v_sign v_number v_fault v_wrongAt v_word v_marks v_notes v_inn_minutes v_inn_rooms v_inn_doors v_inn_things v_inn_dreams v_inn_sleepers v_inn_listeners v_inn_names x12_w) 12 [] := by
    intro n
    induction n with
    | zero => intro x12_2 x12_3 x12_w hf; exact (lp_0 hf).elim
    | succ n ih12 =>
      intro x12_2 x12_3 x12_w hf H locs ls hl hP hD hS
      replace hf := lp_s hf
      generalize lp (BX12_casts_12 v_inn_dreams) n = rec12 at ih12 hf
      unfold BX12_casts_12 at hf
      replace hf := un3_s hf
      refine lv_iload_n (pc := 12) hx hb dX12_casts_12 rfl (lv_at hl 2 rfl) ?_
      refine lv_if_lt (pc := 13) (tgt := 50) hx hb dX12_casts_13 (by decide) (fun c_13 => ?_) (fun c_13 => ?_)
      · replace hf := it_t c_13 hf
        cases hf
        rw [hQ]
        exact r_vret C hr hP hD hS dX12_casts_50
      · replace hf := it_f c_13 hf
        refine lv_aload_n (pc := 16) hx hb dX12_casts_16 rfl (lv_at hl 0 rfl) ?_
        refine r_get (pc := 17) C hP 0 rfl fl_X12_36 rfl dX12_casts_17 ?_
        refine lv_bipush (pc := 20) (v := 12) hx hb dX12_casts_20 (by decide) ?_
        refine lv_iload_n (pc := 22) hx hb dX12_casts_22 rfl (lv_at hl 2 rfl) ?_
        refine lv_iadd (pc := 23) hx hb dX12_casts_23 ?_
        refine lv_iload_n (pc := 24) hx hb dX12_casts_24 rfl (lv_at hl 1 rfl) ?_
        refine lv_aload_n (pc := 25) hx hb dX12_casts_25 rfl (lv_at hl 0 rfl) ?_
        refine r_get (pc := 26) C hP 0 rfl fl_X12_358 rfl dX12_casts_26 ?_
        refine r_get (pc := 29) C hP 1 rfl fl_X12_325 rfl dX12_casts_29 ?_
        obtain ⟨hd_32, hf⟩ := dv_s hf
        refine lv_irem (pc := 32) hx hb dX12_casts_32 hd_32 ?_
        obtain ⟨hi_33, hf⟩ := gd_s hf
        refine r_iast (pc := 33) (ws' := (wX12_casts E h h_inn h_tape h_far h_from h_real h_other h_kept h_set h_w h_book h_noteSort h_whose h_what h_noteIs h_fitting h_dawn h_likes h_walked h_came h_inn_creak h_inn_doorA h_inn_doorB h_inn_how h_inn_lies h_inn_isCold h_inn_falls h_inn_isFull h_inn_isTold h_inn_act h_inn_what h_inn_then h_inn_met h_inn_bed h_inn_dream h_inn_listens h_inn_name h_inn_nameSort h_inn_nameNumber v_thrown v_trouble v_where v_read v_taped v_size v_at v_sort v_place v_sign v_number v_fault v_wrongAt v_word v_marks v_notes v_inn_minutes v_inn_rooms v_inn_doors v_inn_things v_inn_dreams v_inn_sleepers v_inn_listeners v_inn_names (upd x12_w (12 + x12_3).toNatClampNeg (x12_2 - x12_2 / v_inn_dreams * v_inn_dreams)))) C hP hD hS 2 rfl hi_33 rfl dX12_casts_33 ?_
        clear hP hD hS; intro H locs hP hD hS
        refine lv_iload_n (pc := 34) hx hb dX12_casts_34 rfl (lv_at hl 1 rfl) ?_
        refine lv_aload_n (pc := 35) hx hb dX12_casts_35 rfl (lv_at hl 0 rfl) ?_
        refine r_get (pc := 36) C hP 0 rfl fl_X12_358 rfl dX12_casts_36 ?_
        refine r_get (pc := 39) C hP 1 rfl fl_X12_325 rfl dX12_casts_39 ?_
        obtain ⟨hd_42, hf⟩ := dv_s hf
        refine lv_idiv (pc := 42) hx hb dX12_casts_42 hd_42 ?_
        refine lv_istore_n (pc := 43) (lv' := [(2, .int (x12_2 / v_inn_dreams)), (0, .ref h), (3, .int x12_3)]) hx hb dX12_casts_43 rfl hl (by decide) rfl (fun ls hl => ?_)
        refine lv_iinc (pc := 44) (v := x12_3 + (-1)) (lv' := [(3, .int (x12_3 + (-1))), (2, .int (x12_2 / v_inn_dreams)), (0, .ref h)]) hx hb dX12_casts_44 hl (k := 2) rfl (congrArg (fun z => x12_3 + z) (by decide)) (by decide) rfl (fun ls hl => ?_)
        refine lv_goto (pc := 47) (tgt := 12) hx hb dX12_casts_47 (by decide) ?_
        exact ih12 (x12_2 / v_inn_dreams) (x12_3 + (-1)) (upd x12_w (12 + x12_3).toNatClampNeg (x12_2 - x12_2 / v_inn_dreams * v_inn_dreams)) hf _ _ _ (lv_sub hl [2, 1, 0] rfl) hP hD hS
  exact key12 _ p0 (v_inn_sleepers - 1) v_w hf _ _ _ (lv_sub hl [2, 1, 0] rfl) hP hD hS
def wX12_fitsBy (E : EN) (h h_inn h_tape h_far h_from h_real h_other h_kept h_set h_book h_noteSort h_whose h_what h_noteIs h_fitting h_dawn h_likes h_walked h_came h_inn_creak h_inn_doorA h_inn_doorB h_inn_how h_inn_lies h_inn_isCold h_inn_falls h_inn_isFull h_inn_isTold h_inn_act h_inn_what h_inn_then h_inn_met h_inn_bed h_inn_dream h_inn_listens h_inn_name h_inn_nameSort h_inn_nameNumber : Nat) (v_thrown : Int32) (v_trouble : Int32) (v_where : Int32) (v_read : Option Nat) (v_taped : Int32) (v_size : Int32) (v_at : Int32) (v_sort : Int32) (v_place : Int32) (v_sign : Int32) (v_number : Int32) (v_fault : Int32) (v_wrongAt : Int32) (v_word : Int64) (v_marks : Int32) (v_notes : Int32) (v_inn_minutes : Int32) (v_inn_rooms : Int32) (v_inn_doors : Int32) (v_inn_things : Int32) (v_inn_dreams : Int32) (v_inn_sleepers : Int32) (v_inn_listeners : Int32) (v_inn_names : Int32) (v_other : Nat → Int32) (v_inn_how : Nat → Int32) (v_inn_lies : Nat → Int32) (v_inn_isFull : Nat → Int32) (v_inn_bed : Nat → Int32) (v_inn_isTold : Nat → Int32) (v_inn_act : Nat → Int32) (v_inn_then : Nat → Int32) (v_inn_what : Nat → Int32) (v_inn_doorA : Nat → Int32) (v_inn_doorB : Nat → Int32) (v_from : Nat → Int32) (v_inn_falls : Nat → Int32) (v_inn_creak : Nat → Int32) (v_inn_listens : Nat → Int32) (v_far : Nat → Int32) (v_inn_isCold : Nat → Int32) (v_inn_met : Nat → Int32) (v_fitting : Nat → Int32) (v_book : Nat → Int32) (v_noteSort : Nat → Int32) (v_whose : Nat → Int32) (v_what : Nat → Int32) (v_noteIs : Nat → Int32) : va_W := [(h, .inr (11, [.int v_thrown, .int v_trouble, .int v_where, .ref h_inn, va_rf v_read, .ref h_tape, .int v_taped, .int v_size, .int v_at, .int v_sort, .int v_place, .int v_sign, .int v_number, .int v_fault, .int v_wrongAt, .long v_word, .ref h_far, .ref h_from, .ref h_real, .ref h_other, .ref h_kept, .ref h_set, .ref h_real, .int v_marks, .int v_notes, .ref h_book, .ref h_noteSort, .ref h_whose, .ref h_what, .ref h_noteIs, .ref h_fitting, .ref h_dawn, .ref h_likes, .ref h_walked, .ref h_came])), (h_inn, .inr (10, [.int v_inn_minutes, .int v_inn_rooms, .int v_inn_doors, .int v_inn_things, .int v_inn_dreams, .int v_inn_sleepers, .int v_inn_listeners, .int v_inn_names, .ref h_inn_creak, .ref h_inn_doorA, .ref h_inn_doorB, .ref h_inn_how, .ref h_inn_lies, .ref h_inn_isCold, .ref h_inn_falls, .ref h_inn_isFull, .ref h_inn_isTold, .ref h_inn_act, .ref h_inn_what, .ref h_inn_then, .ref h_inn_met, .ref h_inn_bed, .ref h_inn_dream, .ref h_inn_listens, .ref h_inn_name, .ref h_inn_nameSort, .ref h_inn_nameNumber])), (h_other, aI E 51 v_other), (h_inn_how, aI E 10 v_inn_how), (h_inn_lies, aI E 4 v_inn_lies), (h_inn_isFull, aZ E 4 v_inn_isFull), (h_inn_bed, aI E 3 v_inn_bed), (h_inn_isTold, aZ E 16 v_inn_isTold), (h_inn_act, aI E 16 v_inn_act), (h_inn_then, aI E 16 v_inn_then), (h_inn_what, aI E 16 v_inn_what), (h_inn_doorA, aI E 10 v_inn_doorA), (h_inn_doorB, aI E 10 v_inn_doorB), (h_from, aI E 8 v_from), (h_inn_falls, aZ E 10 v_inn_falls), (h_inn_creak, aI E 8 v_inn_creak), (h_inn_listens, aI E 3 v_inn_listens), (h_far, aI E 64 v_far), (h_inn_isCold, aZ E 8 v_inn_isCold), (h_inn_met, aI E 16 v_inn_met), (h_fitting, aI E 64 v_fitting), (h_book, aI E 20 v_book), (h_noteSort, aI E 20 v_noteSort), (h_whose, aI E 20 v_whose), (h_what, aI E 20 v_what), (h_noteIs, aZ E 20 v_noteIs)]
def BX12_fitsBy_38 (v_notes : Int32) (N : Nat) (p0 : Int32) (v_book : Nat → Int32) (v_noteSort : Nat → Int32) (v_whose : Nat → Int32) (v_other_29 : Nat → Int32) (v_what : Nat → Int32) (v_noteIs : Nat → Int32) (K88 : (Int32) → Option (Int32 × (Nat → Int32) × (Nat → Int32) × (Nat → Int32))) (rec38 : (Int32 × Int32) → Option (Int32 × (Nat → Int32) × (Nat → Int32) × (Nat → Int32))) : (Int32 × Int32) → Option (Int32 × (Nat → Int32) × (Nat → Int32) × (Nat → Int32)) := un2 fun (x38_4 : Int32) (x38_5 : Int32) => if v_notes ≤ x38_5 then (K88 x38_4) else (jn (un1 fun (x80_s0 : Int32) => rec38 (x80_s0, x38_5 + 1)) (fun j80 => jn (un0 (j80 0)) (fun j79 => if x38_4 = 0 then (j79 ()) else (gd x38_5 20 ((fX12_has N p0 (v_book x38_5.toNatClampNeg)).bind (un1 fun (r_60 : Int32) => jn (un0 (j80 1)) (fun j75 => if r_60 = 0 then (j75 ()) else ((fX12_isNoted N x38_5 v_noteSort v_whose v_other_29 v_what v_noteIs).bind (un1 fun (r_69 : Int32) => if r_69 = 0 then (j79 ()) else (j75 ()))))))))))
def BX12_fitsBy_12 (N : Nat) (v_inn_dreams : Int32) (v_inn_sleepers : Int32) (v_inn_minutes : Int32) (v_inn_rooms : Int32) (v_inn_doors : Int32) (v_inn_things : Int32) (v_inn_listeners : Int32) (v_inn_how : Nat → Int32) (v_inn_lies : Nat → Int32) (v_inn_isFull : Nat → Int32) (v_inn_bed : Nat → Int32) (v_inn_isTold : Nat → Int32) (v_inn_act : Nat → Int32) (v_inn_then : Nat → Int32) (v_inn_what : Nat → Int32) (v_inn_doorA : Nat → Int32) (v_inn_doorB : Nat → Int32) (v_inn_falls : Nat → Int32) (v_inn_creak : Nat → Int32) (v_inn_listens : Nat → Int32) (v_far : Nat → Int32) (v_inn_isCold : Nat → Int32) (v_inn_met : Nat → Int32) (v_notes : Int32) (p0 : Int32) (v_book : Nat → Int32) (v_noteSort : Nat → Int32) (v_whose : Nat → Int32) (v_what : Nat → Int32) (v_noteIs : Nat → Int32) (rec12 : (Int32 × Int32 × (Nat → Int32) × (Nat → Int32) × (Nat → Int32)) → Option (Int32 × (Nat → Int32) × (Nat → Int32) × (Nat → Int32))) : (Int32 × Int32 × (Nat → Int32) × (Nat → Int32) × (Nat → Int32)) → Option (Int32 × (Nat → Int32) × (Nat → Int32) × (Nat → Int32)) := un5 fun (x12_2 : Int32) (x12_3 : Int32) (x12_other : Nat → Int32) (x12_from : Nat → Int32) (x12_fitting : Nat → Int32) => (fX12_castMany N v_inn_dreams v_inn_sleepers).bind (un1 fun (r_14 : Int32) => if r_14 ≤ x12_3 then (some (x12_2, x12_other, x12_from, x12_fitting)) else ((fX12_casts N x12_3 v_inn_dreams v_inn_sleepers x12_other).bind (un1 fun (v_other_22 : Nat → Int32) => (fX12_plays N 0 40 v_inn_minutes v_inn_rooms v_inn_doors v_inn_things v_inn_sleepers v_inn_listeners v_other_22 v_inn_how v_inn_lies v_inn_isFull v_inn_bed v_inn_isTold v_inn_act v_inn_then v_inn_what v_inn_doorA v_inn_doorB x12_from v_inn_falls v_inn_creak v_inn_listens v_far v_inn_isCold v_inn_met).bind (un2 fun (v_other_29 : Nat → Int32) (v_from_29 : Nat → Int32) => lp (BX12_fitsBy_38 v_notes N p0 v_book v_noteSort v_whose v_other_29 v_what v_noteIs (un1 fun (x88_4 : Int32) => jn (un2 fun (x106_2 : Int32) (x106_fitting : Nat → Int32) => rec12 (x106_2, x12_3 + 1, v_other_29, v_from_29, x106_fitting)) (fun j106 => if x88_4 = 0 then (j106 (x12_2, x12_fitting)) else (gd x12_2 64 (j106 (x12_2 + 1, upd x12_fitting x12_2.toNatClampNeg x12_3)))))) N (1, 0)))))
def fX12_fitsBy (N : Nat) (p0 : Int32) (v_notes : Int32) (v_inn_minutes : Int32) (v_inn_rooms : Int32) (v_inn_doors : Int32) (v_inn_things : Int32) (v_inn_dreams : Int32) (v_inn_sleepers : Int32) (v_inn_listeners : Int32) (v_other : Nat → Int32) (v_inn_how : Nat → Int32) (v_inn_lies : Nat → Int32) (v_inn_isFull : Nat → Int32) (v_inn_bed : Nat → Int32) (v_inn_isTold : Nat → Int32) (v_inn_act : Nat → Int32) (v_inn_then : Nat → Int32) (v_inn_what : Nat → Int32) (v_inn_doorA : Nat → Int32) (v_inn_doorB : Nat → Int32) (v_from : Nat → Int32) (v_inn_falls : Nat → Int32) (v_inn_creak : Nat → Int32) (v_inn_listens : Nat → Int32) (v_far : Nat → Int32) (v_inn_isCold : Nat → Int32) (v_inn_met : Nat → Int32) (v_fitting : Nat → Int32) (v_book : Nat → Int32) (v_noteSort : Nat → Int32) (v_whose : Nat → Int32) (v_what : Nat → Int32) (v_noteIs : Nat → Int32) : Option (Int32 × (Nat → Int32) × (Nat → Int32) × (Nat → Int32)) := lp (BX12_fitsBy_12 N v_inn_dreams v_inn_sleepers v_inn_minutes v_inn_rooms v_inn_doors v_inn_things v_inn_listeners v_inn_how v_inn_lies v_inn_isFull v_inn_bed v_inn_isTold v_inn_act v_inn_then v_inn_what v_inn_doorA v_inn_doorB v_inn_falls v_inn_creak v_inn_listens v_far v_inn_isCold v_inn_met v_notes p0 v_book v_noteSort v_whose v_what v_noteIs) N (0, 0, v_other, v_from, v_fitting)
set_option maxHeartbeats 4000000 in
set_option maxRecDepth 100000 in
theorem ctX12_fitsBy (l : Launch) (E : EN) (h h_inn h_tape h_far h_from h_real h_other h_kept h_set h_book h_noteSort h_whose h_what h_noteIs h_fitting h_dawn h_likes h_walked h_came h_inn_creak h_inn_doorA h_inn_doorB h_inn_how h_inn_lies h_inn_isCold h_inn_falls h_inn_isFull h_inn_isTold h_inn_act h_inn_what h_inn_then h_inn_met h_inn_bed h_inn_dream h_inn_listens h_inn_name h_inn_nameSort h_inn_nameNumber : Nat) (v_thrown : Int32) (v_trouble : Int32) (v_where : Int32) (v_read : Option Nat) (v_taped : Int32) (v_size : Int32) (v_at : Int32) (v_sort : Int32) (v_place : Int32) (v_sign : Int32) (v_number : Int32) (v_fault : Int32) (v_wrongAt : Int32) (v_word : Int64) (v_marks : Int32) (v_notes : Int32) (v_inn_minutes : Int32) (v_inn_rooms : Int32) (v_inn_doors : Int32) (v_inn_things : Int32) (v_inn_dreams : Int32) (v_inn_sleepers : Int32) (v_inn_listeners : Int32) (v_inn_names : Int32) (v_other : Nat → Int32) (v_inn_how : Nat → Int32) (v_inn_lies : Nat → Int32) (v_inn_isFull : Nat → Int32) (v_inn_bed : Nat → Int32) (v_inn_isTold : Nat → Int32) (v_inn_act : Nat → Int32) (v_inn_then : Nat → Int32) (v_inn_what : Nat → Int32) (v_inn_doorA : Nat → Int32) (v_inn_doorB : Nat → Int32) (v_from : Nat → Int32) (v_inn_falls : Nat → Int32) (v_inn_creak : Nat → Int32) (v_inn_listens : Nat → Int32) (v_far : Nat → Int32) (v_inn_isCold : Nat → Int32) (v_inn_met : Nat → Int32) (v_fitting : Nat → Int32) (v_book : Nat → Int32) (v_noteSort : Nat → Int32) (v_whose : Nat → Int32) (v_what : Nat → Int32) (v_noteIs : Nat → Int32) (N : Nat) (p0 : Int32) (z : Int32 × (Nat → Int32) × (Nat → Int32) × (Nat → Int32)) (hf : fX12_fitsBy N p0 v_notes v_inn_minutes v_inn_rooms v_inn_doors v_inn_things v_inn_dreams v_inn_sleepers v_inn_listeners v_other v_inn_how v_inn_lies v_inn_isFull v_inn_bed v_inn_isTold v_inn_act v_inn_then v_inn_what v_inn_doorA v_inn_doorB v_from v_inn_falls v_inn_creak v_inn_listens v_far v_inn_isCold v_inn_met v_fitting v_book v_noteSort v_whose v_what v_noteIs = some z) : CTi l E yX12_fitsBy cX12_fitsBy 6 .int 7 160 [.ref h, .int p0] (wX12_fitsBy E h h_inn h_tape h_far h_from h_real h_other h_kept h_set h_book h_noteSort h_whose h_what h_noteIs h_fitting h_dawn h_likes h_walked h_came h_inn_creak h_inn_doorA h_inn_doorB h_inn_how h_inn_lies h_inn_isCold h_inn_falls h_inn_isFull h_inn_isTold h_inn_act h_inn_what h_inn_then h_inn_met h_inn_bed h_inn_dream h_inn_listens h_inn_name h_inn_nameSort h_inn_nameNumber v_thrown v_trouble v_where v_read v_taped v_size v_at v_sort v_place v_sign v_number v_fault v_wrongAt v_word v_marks v_notes v_inn_minutes v_inn_rooms v_inn_doors v_inn_things v_inn_dreams v_inn_sleepers v_inn_listeners v_inn_names v_other v_inn_how v_inn_lies v_inn_isFull v_inn_bed v_inn_isTold v_inn_act v_inn_then v_inn_what v_inn_doorA v_inn_doorB v_from v_inn_falls v_inn_creak v_inn_listens v_far v_inn_isCold v_inn_met v_fitting v_book v_noteSort v_whose v_what v_noteIs) (z.1) (wX12_fitsBy E h h_inn h_tape h_far h_from h_real h_other h_kept h_set h_book h_noteSort h_whose h_what h_noteIs h_fitting h_dawn h_likes h_walked h_came h_inn_creak h_inn_doorA h_inn_doorB h_inn_how h_inn_lies h_inn_isCold h_inn_falls h_inn_isFull h_inn_isTold h_inn_act h_inn_what h_inn_then h_inn_met h_inn_bed h_inn_dream h_inn_listens h_inn_name h_inn_nameSort h_inn_nameNumber v_thrown v_trouble v_where v_read v_taped v_size v_at v_sort v_place v_sign v_number v_fault v_wrongAt v_word v_marks v_notes v_inn_minutes v_inn_rooms v_inn_doors v_inn_things v_inn_dreams v_inn_sleepers v_inn_listeners v_inn_names z.2.1 v_inn_how v_inn_lies v_inn_isFull v_inn_bed v_inn_isTold v_inn_act v_inn_then v_inn_what v_inn_doorA v_inn_doorB z.2.2.1 v_inn_falls v_inn_creak v_inn_listens v_far v_inn_isCold v_inn_met z.2.2.2 v_book v_noteSort v_whose v_what v_noteIs) := by
  intro sz
  refine ct_body (by decide) (Nat.le_of_ble_eq_true rfl) ?_
  intro p e s m args below meth c A ls hAe C hr hin hP hD hS hl
  have C : CX p s m args meth c cX12_fitsBy RX12 6 E A := C
  have hl : lv_has ls 6 [(0, .ref h), (1, .int p0)] := hl
  have hx := C.1
  have hb := C.2.1
  rw [hAe]
  clear hAe
  obtain ⟨Q, hQ⟩ : ∃ Q, Q = MQ below (Qi E A (z.1) (wX12_fitsBy E h h_inn h_tape h_far h_from h_real h_other h_kept h_set h_book h_noteSort h_whose h_what h_noteIs h_fitting h_dawn h_likes h_walked h_came h_inn_creak h_inn_doorA h_inn_doorB h_inn_how h_inn_lies h_inn_isCold h_inn_falls h_inn_isFull h_inn_isTold h_inn_act h_inn_what h_inn_then h_inn_met h_inn_bed h_inn_dream h_inn_listens h_inn_name h_inn_nameSort h_inn_nameNumber v_thrown v_trouble v_where v_read v_taped v_size v_at v_sort v_place v_sign v_number v_fault v_wrongAt v_word v_marks v_notes v_inn_minutes v_inn_rooms v_inn_doors v_inn_things v_inn_dreams v_inn_sleepers v_inn_listeners v_inn_names z.2.1 v_inn_how v_inn_lies v_inn_isFull v_inn_bed v_inn_isTold v_inn_act v_inn_then v_inn_what v_inn_doorA v_inn_doorB z.2.2.1 v_inn_falls v_inn_creak v_inn_listens v_far v_inn_isCold v_inn_met z.2.2.2 v_book v_noteSort v_whose v_what v_noteIs)) args s 0 0 A := ⟨_, rfl⟩
  rw [← hQ]
  unfold fX12_fitsBy at hf
  refine lv_aload_n (pc := 0) hx hb dX12_fitsBy_0 rfl (lv_at hl 0 rfl) ?_
  refine lv_aload_n (pc := 1) hx hb dX12_fitsBy_1 rfl (lv_at hl 0 rfl) ?_
  refine r_get (pc := 2) C hP 0 rfl fl_X12_27 rfl dX12_fitsBy_2 ?_
  refine r_put (pc := 5) (ws' := [(h, .inr (11, [.int v_thrown, .int v_trouble, .int v_where, .ref h_inn, va_rf v_read, .ref h_tape, .int v_taped, .int v_size, .int v_at, .int v_sort, .int v_place, .int v_sign, .int v_number, .int v_fault, .int v_wrongAt, .long v_word, .ref h_far, .ref h_from, .ref h_real, .ref h_other, .ref h_kept, .ref h_set, .ref h_other, .int v_marks, .int v_notes, .ref h_book, .ref h_noteSort, .ref h_whose, .ref h_what, .ref h_noteIs, .ref h_fitting, .ref h_dawn, .ref h_likes, .ref h_walked, .ref h_came])), (h_inn, .inr (10, [.int v_inn_minutes, .int v_inn_rooms, .int v_inn_doors, .int v_inn_things, .int v_inn_dreams, .int v_inn_sleepers, .int v_inn_listeners, .int v_inn_names, .ref h_inn_creak, .ref h_inn_doorA, .ref h_inn_doorB, .ref h_inn_how, .ref h_inn_lies, .ref h_inn_isCold, .ref h_inn_falls, .ref h_inn_isFull, .ref h_inn_isTold, .ref h_inn_act, .ref h_inn_what, .ref h_inn_then, .ref h_inn_met, .ref h_inn_bed, .ref h_inn_dream, .ref h_inn_listens, .ref h_inn_name, .ref h_inn_nameSort, .ref h_inn_nameNumber])), (h_other, aI E 51 v_other), (h_inn_how, aI E 10 v_inn_how), (h_inn_lies, aI E 4 v_inn_lies), (h_inn_isFull, aZ E 4 v_inn_isFull), (h_inn_bed, aI E 3 v_inn_bed), (h_inn_isTold, aZ E 16 v_inn_isTold), (h_inn_act, aI E 16 v_inn_act), (h_inn_then, aI E 16 v_inn_then), (h_inn_what, aI E 16 v_inn_what), (h_inn_doorA, aI E 10 v_inn_doorA), (h_inn_doorB, aI E 10 v_inn_doorB), (h_from, aI E 8 v_from), (h_inn_falls, aZ E 10 v_inn_falls), (h_inn_creak, aI E 8 v_inn_creak), (h_inn_listens, aI E 3 v_inn_listens), (h_far, aI E 64 v_far), (h_inn_isCold, aZ E 8 v_inn_isCold), (h_inn_met, aI E 16 v_inn_met), (h_fitting, aI E 64 v_fitting), (h_book, aI E 20 v_book), (h_noteSort, aI E 20 v_noteSort), (h_whose, aI E 20 v_whose), (h_what, aI E 20 v_what), (h_noteIs, aZ E 20 v_noteIs)]) C hP hD hS 0 rfl fl_X12_36 rfl rfl (Nat.le_of_ble_eq_true rfl) rfl dX12_fitsBy_5 ?_
  clear hP hD hS; intro H locs hP hD hS
  refine lv_iconst (pc := 8) (v := 0) hx hb dX12_fitsBy_8 (by decide) ?_
  refine lv_istore_n (pc := 9) (lv' := [(2, .int 0), (0, .ref h), (1, .int p0)]) hx hb dX12_fitsBy_9 rfl hl (by decide) rfl (fun ls hl => ?_)
  refine lv_iconst (pc := 10) (v := 0) hx hb dX12_fitsBy_10 (by decide) ?_
  refine lv_istore_n (pc := 11) (lv' := [(3, .int 0), (2, .int 0), (0, .ref h), (1, .int p0)]) hx hb dX12_fitsBy_11 rfl hl (by decide) rfl (fun ls hl => ?_)
  have key12 : ∀ (n : Nat) (x12_2 : Int32) (x12_3 : Int32) (x12_other : Nat → Int32) (x12_from : Nat → Int32) (x12_fitting : Nat → Int32) , lp (BX12_fitsBy_12 N v_inn_dreams v_inn_sleepers v_inn_minutes v_inn_rooms v_inn_doors v_inn_things v_inn_listeners v_inn_how v_inn_lies v_inn_isFull v_inn_bed v_inn_isTold v_inn_act v_inn_then v_inn_what v_inn_doorA v_inn_doorB v_inn_falls v_inn_creak v_inn_listens v_far v_inn_isCold v_inn_met v_notes p0 v_book v_noteSort v_whose v_what v_noteIs) n (x12_2, x12_3, x12_other, x12_from, x12_fitting) = some z → AT p l e (rmOf 7 160) s m args below meth c E A Q 0 0 6 [(0, .ref h), (1, .int p0), (2, .int x12_2), (3, .int x12_3)] [(h, .inr (11, [.int v_thrown, .int v_trouble, .int v_where, .ref h_inn, va_rf v_read, .ref h_tape, .int v_taped, .int v_size, .int v_at, .int v_sort, .int v_place, .int v_sign, .int v_number, .int v_fault, .int v_wrongAt, .long v_word, .ref h_far, .ref h_from, .ref h_real, .ref h_other, .ref h_kept, .ref h_set, .ref h_other, .int v_marks, .int v_notes, .ref h_book, .ref h_noteSort, .ref h_whose, .ref h_what, .ref h_noteIs, .ref h_fitting, .ref h_dawn, .ref h_likes, .ref h_walked, .ref h_came])), (h_inn, .inr (10, [.int v_inn_minutes, .int v_inn_rooms, .int v_inn_doors, .int v_inn_things, .int v_inn_dreams, .int v_inn_sleepers, .int v_inn_listeners, .int v_inn_names, .ref h_inn_creak, .ref h_inn_doorA, .ref h_inn_doorB, .ref h_inn_how, .ref h_inn_lies, .ref h_inn_isCold, .ref h_inn_falls, .ref h_inn_isFull, .ref h_inn_isTold, .ref h_inn_act, .ref h_inn_what, .ref h_inn_then, .ref h_inn_met, .ref h_inn_bed, .ref h_inn_dream, .ref h_inn_listens, .ref h_inn_name, .ref h_inn_nameSort, .ref h_inn_nameNumber])), (h_other, aI E 51 x12_other), (h_inn_how, aI E 10 v_inn_how), (h_inn_lies, aI E 4 v_inn_lies), (h_inn_isFull, aZ E 4 v_inn_isFull), (h_inn_bed, aI E 3 v_inn_bed), (h_inn_isTold, aZ E 16 v_inn_isTold), (h_inn_act, aI E 16 v_inn_act), (h_inn_then, aI E 16 v_inn_then), (h_inn_what, aI E 16 v_inn_what), (h_inn_doorA, aI E 10 v_inn_doorA), (h_inn_doorB, aI E 10 v_inn_doorB), (h_from, aI E 8 x12_from), (h_inn_falls, aZ E 10 v_inn_falls), (h_inn_creak, aI E 8 v_inn_creak), (h_inn_listens, aI E 3 v_inn_listens), (h_far, aI E 64 v_far), (h_inn_isCold, aZ E 8 v_inn_isCold), (h_inn_met, aI E 16 v_inn_met), (h_fitting, aI E 64 x12_fitting), (h_book, aI E 20 v_book), (h_noteSort, aI E 20 v_noteSort), (h_whose, aI E 20 v_whose), (h_what, aI E 20 v_what), (h_noteIs, aZ E 20 v_noteIs)] 12 [] := by
    intro n
    induction n with
    | zero => intro x12_2 x12_3 x12_other x12_from x12_fitting hf; exact (lp_0 hf).elim
    | succ n ih12 =>
      intro x12_2 x12_3 x12_other x12_from x12_fitting hf H locs ls hl hP hD hS
      replace hf := lp_s hf
      generalize lp (BX12_fitsBy_12 N v_inn_dreams v_inn_sleepers v_inn_minutes v_inn_rooms v_inn_doors v_inn_things v_inn_listeners v_inn_how v_inn_lies v_inn_isFull v_inn_bed v_inn_isTold v_inn_act v_inn_then v_inn_what v_inn_doorA v_inn_doorB v_inn_falls v_inn_creak v_inn_listens v_far v_inn_isCold v_inn_met v_notes p0 v_book v_noteSort v_whose v_what v_noteIs) n = rec12 at ih12 hf
      unfold BX12_fitsBy_12 at hf
      replace hf := un5_s hf
      refine lv_iload_n (pc := 12) hx hb dX12_fitsBy_12 rfl (lv_at hl 3 rfl) ?_
      refine lv_aload_n (pc := 13) hx hb dX12_fitsBy_13 rfl (lv_at hl 0 rfl) ?_
      obtain ⟨r_14, hc_14, hf⟩ := bd1 hf
      refine r_dalVi (pc := 14) (ws' := [(h, .inr (11, [.int v_thrown, .int v_trouble, .int v_where, .ref h_inn, va_rf v_read, .ref h_tape, .int v_taped, .int v_size, .int v_at, .int v_sort, .int v_place, .int v_sign, .int v_number, .int v_fault, .int v_wrongAt, .long v_word, .ref h_far, .ref h_from, .ref h_real, .ref h_other, .ref h_kept, .ref h_set, .ref h_other, .int v_marks, .int v_notes, .ref h_book, .ref h_noteSort, .ref h_whose, .ref h_what, .ref h_noteIs, .ref h_fitting, .ref h_dawn, .ref h_likes, .ref h_walked, .ref h_came])), (h_inn, .inr (10, [.int v_inn_minutes, .int v_inn_rooms, .int v_inn_doors, .int v_inn_things, .int v_inn_dreams, .int v_inn_sleepers, .int v_inn_listeners, .int v_inn_names, .ref h_inn_creak, .ref h_inn_doorA, .ref h_inn_doorB, .ref h_inn_how, .ref h_inn_lies, .ref h_inn_isCold, .ref h_inn_falls, .ref h_inn_isFull, .ref h_inn_isTold, .ref h_inn_act, .ref h_inn_what, .ref h_inn_then, .ref h_inn_met, .ref h_inn_bed, .ref h_inn_dream, .ref h_inn_listens, .ref h_inn_name, .ref h_inn_nameSort, .ref h_inn_nameNumber])), (h_other, aI E 51 x12_other), (h_inn_how, aI E 10 v_inn_how), (h_inn_lies, aI E 4 v_inn_lies), (h_inn_isFull, aZ E 4 v_inn_isFull), (h_inn_bed, aI E 3 v_inn_bed), (h_inn_isTold, aZ E 16 v_inn_isTold), (h_inn_act, aI E 16 v_inn_act), (h_inn_then, aI E 16 v_inn_then), (h_inn_what, aI E 16 v_inn_what), (h_inn_doorA, aI E 10 v_inn_doorA), (h_inn_doorB, aI E 10 v_inn_doorB), (h_from, aI E 8 x12_from), (h_inn_falls, aZ E 10 v_inn_falls), (h_inn_creak, aI E 8 v_inn_creak), (h_inn_listens, aI E 3 v_inn_listens), (h_far, aI E 64 v_far), (h_inn_isCold, aZ E 8 v_inn_isCold), (h_inn_met, aI E 16 v_inn_met), (h_fitting, aI E 64 x12_fitting), (h_book, aI E 20 v_book), (h_noteSort, aI E 20 v_noteSort), (h_whose, aI E 20 v_whose), (h_what, aI E 20 v_what), (h_noteIs, aZ E 20 v_noteIs)]) (As := []) (rest := [.int x12_3]) C (ctX12_castMany l E h h_inn h_tape h_far h_from h_real h_other h_kept h_set h_other h_book h_noteSort h_whose h_what h_noteIs h_fitting h_dawn h_likes h_walked h_came h_inn_creak h_inn_doorA h_inn_doorB h_inn_how h_inn_lies h_inn_isCold h_inn_falls h_inn_isFull h_inn_isTold h_inn_act h_inn_what h_inn_then h_inn_met h_inn_bed h_inn_dream h_inn_listens h_inn_name h_inn_nameSort h_inn_nameNumber v_thrown v_trouble v_where v_read v_taped v_size v_at v_sort v_place v_sign v_number v_fault v_wrongAt v_word v_marks v_notes v_inn_minutes v_inn_rooms v_inn_doors v_inn_things v_inn_dreams v_inn_sleepers v_inn_listeners v_inn_names N r_14 hc_14) ml_X12_452 ⟨Nat.le_of_ble_eq_true rfl, Nat.le_of_ble_eq_true rfl⟩ hP hD hS 0 rfl rfl rfl [0, 1] [26, 27, 2, 3, 4, 5, 6, 7, 8, 9, 10, 11, 12, 13, 14, 15, 16, 17, 18, 19, 20, 21, 22, 23, 24, 25] 26 rfl rfl rfl rfl rfl rfl rfl hl.1 rfl (Nat.le_of_ble_eq_true rfl) ⟨Nat.zero_le _, Nat.zero_le _⟩ dX12_fitsBy_14 ?_
      clear hP hD hS; intro H locs hP hD hS
      refine lv_icmp_ge (pc := 17) (tgt := 112) hx hb dX12_fitsBy_17 (by decide) (fun c_17 => ?_) (fun c_17 => ?_)
      · replace hf := it_t c_17 hf
        refine lv_aload_n (pc := 112) hx hb dX12_fitsBy_112 rfl (lv_at hl 0 rfl) ?_
        refine lv_aload_n (pc := 113) hx hb dX12_fitsBy_113 rfl (lv_at hl 0 rfl) ?_
        refine r_get (pc := 114) C hP 0 rfl fl_X12_24 rfl dX12_fitsBy_114 ?_
        refine r_put (pc := 117) (ws' := (wX12_fitsBy E h h_inn h_tape h_far h_from h_real h_other h_kept h_set h_book h_noteSort h_whose h_what h_noteIs h_fitting h_dawn h_likes h_walked h_came h_inn_creak h_inn_doorA h_inn_doorB h_inn_how h_inn_lies h_inn_isCold h_inn_falls h_inn_isFull h_inn_isTold h_inn_act h_inn_what h_inn_then h_inn_met h_inn_bed h_inn_dream h_inn_listens h_inn_name h_inn_nameSort h_inn_nameNumber v_thrown v_trouble v_where v_read v_taped v_size v_at v_sort v_place v_sign v_number v_fault v_wrongAt v_word v_marks v_notes v_inn_minutes v_inn_rooms v_inn_doors v_inn_things v_inn_dreams v_inn_sleepers v_inn_listeners v_inn_names x12_other v_inn_how v_inn_lies v_inn_isFull v_inn_bed v_inn_isTold v_inn_act v_inn_then v_inn_what v_inn_doorA v_inn_doorB x12_from v_inn_falls v_inn_creak v_inn_listens v_far v_inn_isCold v_inn_met x12_fitting v_book v_noteSort v_whose v_what v_noteIs)) C hP hD hS 0 rfl fl_X12_36 rfl rfl (Nat.le_of_ble_eq_true rfl) rfl dX12_fitsBy_117 ?_
        clear hP hD hS; intro H locs hP hD hS
        refine lv_iload_n (pc := 120) hx hb dX12_fitsBy_120 rfl (lv_at hl 2 rfl) ?_
        cases hf
        rw [hQ]
        exact r_iret C hr hP hD hS rfl dX12_fitsBy_121
      · replace hf := it_f c_17 hf
        refine lv_aload_n (pc := 20) hx hb dX12_fitsBy_20 rfl (lv_at hl 0 rfl) ?_
        refine lv_iload_n (pc := 21) hx hb dX12_fitsBy_21 rfl (lv_at hl 3 rfl) ?_
        obtain ⟨v_other_22, hc_22, hf⟩ := bd1 hf
        refine r_dalVv (pc := 22) (ws' := [(h, .inr (11, [.int v_thrown, .int v_trouble, .int v_where, .ref h_inn, va_rf v_read, .ref h_tape, .int v_taped, .int v_size, .int v_at, .int v_sort, .int v_place, .int v_sign, .int v_number, .int v_fault, .int v_wrongAt, .long v_word, .ref h_far, .ref h_from, .ref h_real, .ref h_other, .ref h_kept, .ref h_set, .ref h_other, .int v_marks, .int v_notes, .ref h_book, .ref h_noteSort, .ref h_whose, .ref h_what, .ref h_noteIs, .ref h_fitting, .ref h_dawn, .ref h_likes, .ref h_walked, .ref h_came])), (h_inn, .inr (10, [.int v_inn_minutes, .int v_inn_rooms, .int v_inn_doors, .int v_inn_things, .int v_inn_dreams, .int v_inn_sleepers, .int v_inn_listeners, .int v_inn_names, .ref h_inn_creak, .ref h_inn_doorA, .ref h_inn_doorB, .ref h_inn_how, .ref h_inn_lies, .ref h_inn_isCold, .ref h_inn_falls, .ref h_inn_isFull, .ref h_inn_isTold, .ref h_inn_act, .ref h_inn_what, .ref h_inn_then, .ref h_inn_met, .ref h_inn_bed, .ref h_inn_dream, .ref h_inn_listens, .ref h_inn_name, .ref h_inn_nameSort, .ref h_inn_nameNumber])), (h_other, aI E 51 v_other_22), (h_inn_how, aI E 10 v_inn_how), (h_inn_lies, aI E 4 v_inn_lies), (h_inn_isFull, aZ E 4 v_inn_isFull), (h_inn_bed, aI E 3 v_inn_bed), (h_inn_isTold, aZ E 16 v_inn_isTold), (h_inn_act, aI E 16 v_inn_act), (h_inn_then, aI E 16 v_inn_then), (h_inn_what, aI E 16 v_inn_what), (h_inn_doorA, aI E 10 v_inn_doorA), (h_inn_doorB, aI E 10 v_inn_doorB), (h_from, aI E 8 x12_from), (h_inn_falls, aZ E 10 v_inn_falls), (h_inn_creak, aI E 8 v_inn_creak), (h_inn_listens, aI E 3 v_inn_listens), (h_far, aI E 64 v_far), (h_inn_isCold, aZ E 8 v_inn_isCold), (h_inn_met, aI E 16 v_inn_met), (h_fitting, aI E 64 x12_fitting), (h_book, aI E 20 v_book), (h_noteSort, aI E 20 v_noteSort), (h_whose, aI E 20 v_whose), (h_what, aI E 20 v_what), (h_noteIs, aZ E 20 v_noteIs)]) (As := [.int x12_3]) (rest := []) C (ctX12_casts l E h h_inn h_tape h_far h_from h_real h_other h_kept h_set h_other h_book h_noteSort h_whose h_what h_noteIs h_fitting h_dawn h_likes h_walked h_came h_inn_creak h_inn_doorA h_inn_doorB h_inn_how h_inn_lies h_inn_isCold h_inn_falls h_inn_isFull h_inn_isTold h_inn_act h_inn_what h_inn_then h_inn_met h_inn_bed h_inn_dream h_inn_listens h_inn_name h_inn_nameSort h_inn_nameNumber v_thrown v_trouble v_where v_read v_taped v_size v_at v_sort v_place v_sign v_number v_fault v_wrongAt v_word v_marks v_notes v_inn_minutes v_inn_rooms v_inn_doors v_inn_things v_inn_dreams v_inn_sleepers v_inn_listeners v_inn_names x12_other N x12_3 v_other_22 hc_22) ml_X12_455 ⟨Nat.le_of_ble_eq_true rfl, Nat.le_of_ble_eq_true rfl⟩ hP hD hS 0 rfl rfl rfl [0, 1, 2] [26, 27, 28, 3, 4, 5, 6, 7, 8, 9, 10, 11, 12, 13, 14, 15, 16, 17, 18, 19, 20, 21, 22, 23, 24, 25] 26 rfl rfl rfl rfl rfl rfl rfl hl.1 rfl (Nat.le_of_ble_eq_true rfl) ⟨Nat.zero_le _, Nat.zero_le _⟩ dX12_fitsBy_22 ?_
        clear hP hD hS; intro H locs hP hD hS
        refine lv_aload_n (pc := 25) hx hb dX12_fitsBy_25 rfl (lv_at hl 0 rfl) ?_
        refine lv_iconst (pc := 26) (v := 0) hx hb dX12_fitsBy_26 (by decide) ?_
        refine lv_bipush (pc := 27) (v := 40) hx hb dX12_fitsBy_27 (by decide) ?_
        obtain ⟨v_other_29, v_from_29, hc_29, hf⟩ := bd2 hf
        refine r_dalVv (pc := 29) (ws' := [(h, .inr (11, [.int v_thrown, .int v_trouble, .int v_where, .ref h_inn, va_rf v_read, .ref h_tape, .int v_taped, .int v_size, .int v_at, .int v_sort, .int v_place, .int v_sign, .int v_number, .int v_fault, .int v_wrongAt, .long v_word, .ref h_far, .ref h_from, .ref h_real, .ref h_other, .ref h_kept, .ref h_set, .ref h_other, .int v_marks, .int v_notes, .ref h_book, .ref h_noteSort, .ref h_whose, .ref h_what, .ref h_noteIs, .ref h_fitting, .ref h_dawn, .ref h_likes, .ref h_walked, .ref h_came])), (h_inn, .inr (10, [.int v_inn_minutes, .int v_inn_rooms, .int v_inn_doors, .int v_inn_things, .int v_inn_dreams, .int v_inn_sleepers, .int v_inn_listeners, .int v_inn_names, .ref h_inn_creak, .ref h_inn_doorA, .ref h_inn_doorB, .ref h_inn_how, .ref h_inn_lies, .ref h_inn_isCold, .ref h_inn_falls, .ref h_inn_isFull, .ref h_inn_isTold, .ref h_inn_act, .ref h_inn_what, .ref h_inn_then, .ref h_inn_met, .ref h_inn_bed, .ref h_inn_dream, .ref h_inn_listens, .ref h_inn_name, .ref h_inn_nameSort, .ref h_inn_nameNumber])), (h_other, aI E 51 v_other_29), (h_inn_how, aI E 10 v_inn_how), (h_inn_lies, aI E 4 v_inn_lies), (h_inn_isFull, aZ E 4 v_inn_isFull), (h_inn_bed, aI E 3 v_inn_bed), (h_inn_isTold, aZ E 16 v_inn_isTold), (h_inn_act, aI E 16 v_inn_act), (h_inn_then, aI E 16 v_inn_then), (h_inn_what, aI E 16 v_inn_what), (h_inn_doorA, aI E 10 v_inn_doorA), (h_inn_doorB, aI E 10 v_inn_doorB), (h_from, aI E 8 v_from_29), (h_inn_falls, aZ E 10 v_inn_falls), (h_inn_creak, aI E 8 v_inn_creak), (h_inn_listens, aI E 3 v_inn_listens), (h_far, aI E 64 v_far), (h_inn_isCold, aZ E 8 v_inn_isCold), (h_inn_met, aI E 16 v_inn_met), (h_fitting, aI E 64 x12_fitting), (h_book, aI E 20 v_book), (h_noteSort, aI E 20 v_noteSort), (h_whose, aI E 20 v_whose), (h_what, aI E 20 v_what), (h_noteIs, aZ E 20 v_noteIs)]) (As := [.int 0, .int 40]) (rest := []) C (ctX12_plays l E h h_inn h_tape h_far h_from h_real h_other h_kept h_set h_other h_book h_noteSort h_whose h_what h_noteIs h_fitting h_dawn h_likes h_walked h_came h_inn_creak h_inn_doorA h_inn_doorB h_inn_how h_inn_lies h_inn_isCold h_inn_falls h_inn_isFull h_inn_isTold h_inn_act h_inn_what h_inn_then h_inn_met h_inn_bed h_inn_dream h_inn_listens h_inn_name h_inn_nameSort h_inn_nameNumber v_thrown v_trouble v_where v_read v_taped v_size v_at v_sort v_place v_sign v_number v_fault v_wrongAt v_word v_marks v_notes v_inn_minutes v_inn_rooms v_inn_doors v_inn_things v_inn_dreams v_inn_sleepers v_inn_listeners v_inn_names v_other_22 v_inn_how v_inn_lies v_inn_isFull v_inn_bed v_inn_isTold v_inn_act v_inn_then v_inn_what v_inn_doorA v_inn_doorB x12_from v_inn_falls v_inn_creak v_inn_listens v_far v_inn_isCold v_inn_met N 0 40 (v_other_29, v_from_29) hc_29) ml_X12_442 ⟨Nat.le_of_ble_eq_true rfl, Nat.le_of_ble_eq_true rfl⟩ hP hD hS 0 rfl rfl rfl [0, 1, 2, 3, 4, 5, 6, 7, 8, 9, 10, 11, 12, 13, 14, 15, 16, 17, 18, 19] [26, 27, 28, 29, 30, 31, 32, 33, 34, 35, 36, 37, 38, 39, 40, 41, 42, 43, 44, 45, 20, 21, 22, 23, 24, 25] 26 rfl rfl rfl rfl rfl rfl rfl hl.1 rfl (Nat.le_of_ble_eq_true rfl) ⟨Nat.zero_le _, Nat.zero_le _⟩ dX12_fitsBy_29 ?_
        clear hP hD hS; intro H locs hP hD hS
        refine lv_iconst (pc := 32) (v := 1) hx hb dX12_fitsBy_32 (by decide) ?_
        refine lv_istore (pc := 33) (lv' := [(4, .int 1), (0, .ref h), (1, .int p0), (2, .int x12_2), (3, .int x12_3)]) hx hb dX12_fitsBy_33 hl (by decide) rfl (fun ls hl => ?_)
        refine lv_iconst (pc := 35) (v := 0) hx hb dX12_fitsBy_35 (by decide) ?_
        refine lv_istore (pc := 36) (lv' := [(5, .int 0), (4, .int 1), (0, .ref h), (1, .int p0), (2, .int x12_2), (3, .int x12_3)]) hx hb dX12_fitsBy_36 hl (by decide) rfl (fun ls hl => ?_)
        refine lpK hf (fun K88 eK88 hf => ?_)
        have hK88 : ∀ (x88_4 : Int32) , K88 x88_4 = some z → AT p l e (rmOf 7 160) s m args below meth c E A Q 0 0 6 [(0, .ref h), (1, .int p0), (2, .int x12_2), (3, .int x12_3), (4, .int x88_4)] [(h, .inr (11, [.int v_thrown, .int v_trouble, .int v_where, .ref h_inn, va_rf v_read, .ref h_tape, .int v_taped, .int v_size, .int v_at, .int v_sort, .int v_place, .int v_sign, .int v_number, .int v_fault, .int v_wrongAt, .long v_word, .ref h_far, .ref h_from, .ref h_real, .ref h_other, .ref h_kept, .ref h_set, .ref h_other, .int v_marks, .int v_notes, .ref h_book, .ref h_noteSort, .ref h_whose, .ref h_what, .ref h_noteIs, .ref h_fitting, .ref h_dawn, .ref h_likes, .ref h_walked, .ref h_came])), (h_inn, .inr (10, [.int v_inn_minutes, .int v_inn_rooms, .int v_inn_doors, .int v_inn_things, .int v_inn_dreams, .int v_inn_sleepers, .int v_inn_listeners, .int v_inn_names, .ref h_inn_creak, .ref h_inn_doorA, .ref h_inn_doorB, .ref h_inn_how, .ref h_inn_lies, .ref h_inn_isCold, .ref h_inn_falls, .ref h_inn_isFull, .ref h_inn_isTold, .ref h_inn_act, .ref h_inn_what, .ref h_inn_then, .ref h_inn_met, .ref h_inn_bed, .ref h_inn_dream, .ref h_inn_listens, .ref h_inn_name, .ref h_inn_nameSort, .ref h_inn_nameNumber])), (h_other, aI E 51 v_other_29), (h_inn_how, aI E 10 v_inn_how), (h_inn_lies, aI E 4 v_inn_lies), (h_inn_isFull, aZ E 4 v_inn_isFull), (h_inn_bed, aI E 3 v_inn_bed), (h_inn_isTold, aZ E 16 v_inn_isTold), (h_inn_act, aI E 16 v_inn_act), (h_inn_then, aI E 16 v_inn_then), (h_inn_what, aI E 16 v_inn_what), (h_inn_doorA, aI E 10 v_inn_doorA), (h_inn_doorB, aI E 10 v_inn_doorB), (h_from, aI E 8 v_from_29), (h_inn_falls, aZ E 10 v_inn_falls), (h_inn_creak, aI E 8 v_inn_creak), (h_inn_listens, aI E 3 v_inn_listens), (h_far, aI E 64 v_far), (h_inn_isCold, aZ E 8 v_inn_isCold), (h_inn_met, aI E 16 v_inn_met), (h_fitting, aI E 64 x12_fitting), (h_book, aI E 20 v_book), (h_noteSort, aI E 20 v_noteSort), (h_whose, aI E 20 v_whose), (h_what, aI E 20 v_what), (h_noteIs, aZ E 20 v_noteIs)] 88 [] := by
          intro x88_4 hf H locs ls hl hP hD hS
          rw [eK88] at hf
          replace hf := un1_s hf
          refine lv_iload (pc := 88) hx hb dX12_fitsBy_88 (lv_at hl 4 rfl) ?_
          refine jnK hf (fun j106 ej106 hf => ?_)
          have hj106 : ∀ (x106_2 : Int32) (x106_fitting : Nat → Int32) , j106 (x106_2, x106_fitting) = some z → AT p l e (rmOf 7 160) s m args below meth c E A Q 0 0 6 [(0, .ref h), (1, .int p0), (2, .int x106_2), (3, .int x12_3)] [(h, .inr (11, [.int v_thrown, .int v_trouble, .int v_where, .ref h_inn, va_rf v_read, .ref h_tape, .int v_taped, .int v_size, .int v_at, .int v_sort, .int v_place, .int v_sign, .int v_number, .int v_fault, .int v_wrongAt, .long v_word, .ref h_far, .ref h_from, .ref h_real, .ref h_other, .ref h_kept, .ref h_set, .ref h_other, .int v_marks, .int v_notes, .ref h_book, .ref h_noteSort, .ref h_whose, .ref h_what, .ref h_noteIs, .ref h_fitting, .ref h_dawn, .ref h_likes, .ref h_walked, .ref h_came])), (h_inn, .inr (10, [.int v_inn_minutes, .int v_inn_rooms, .int v_inn_doors, .int v_inn_things, .int v_inn_dreams, .int v_inn_sleepers, .int v_inn_listeners, .int v_inn_names, .ref h_inn_creak, .ref h_inn_doorA, .ref h_inn_doorB, .ref h_inn_how, .ref h_inn_lies, .ref h_inn_isCold, .ref h_inn_falls, .ref h_inn_isFull, .ref h_inn_isTold, .ref h_inn_act, .ref h_inn_what, .ref h_inn_then, .ref h_inn_met, .ref h_inn_bed, .ref h_inn_dream, .ref h_inn_listens, .ref h_inn_name, .ref h_inn_nameSort, .ref h_inn_nameNumber])), (h_other, aI E 51 v_other_29), (h_inn_how, aI E 10 v_inn_how), (h_inn_lies, aI E 4 v_inn_lies), (h_inn_isFull, aZ E 4 v_inn_isFull), (h_inn_bed, aI E 3 v_inn_bed), (h_inn_isTold, aZ E 16 v_inn_isTold), (h_inn_act, aI E 16 v_inn_act), (h_inn_then, aI E 16 v_inn_then), (h_inn_what, aI E 16 v_inn_what), (h_inn_doorA, aI E 10 v_inn_doorA), (h_inn_doorB, aI E 10 v_inn_doorB), (h_from, aI E 8 v_from_29), (h_inn_falls, aZ E 10 v_inn_falls), (h_inn_creak, aI E 8 v_inn_creak), (h_inn_listens, aI E 3 v_inn_listens), (h_far, aI E 64 v_far), (h_inn_isCold, aZ E 8 v_inn_isCold), (h_inn_met, aI E 16 v_inn_met), (h_fitting, aI E 64 x106_fitting), (h_book, aI E 20 v_book), (h_noteSort, aI E 20 v_noteSort), (h_whose, aI E 20 v_whose), (h_what, aI E 20 v_what), (h_noteIs, aZ E 20 v_noteIs)] 106 [] := by
            intro x106_2 x106_fitting hf H locs ls hl hP hD hS
            rw [ej106] at hf
            replace hf := un2_s hf
            refine lv_iinc (pc := 106) (v := x12_3 + 1) (lv' := [(3, .int (x12_3 + 1)), (0, .ref h), (1, .int p0), (2, .int x106_2)]) hx hb dX12_fitsBy_106 hl (k := 3) rfl rfl (by decide) rfl (fun ls hl => ?_)
            refine lv_goto (pc := 109) (tgt := 12) hx hb dX12_fitsBy_109 (by decide) ?_
            exact ih12 x106_2 (x12_3 + 1) v_other_29 v_from_29 x106_fitting hf _ _ _ (lv_sub hl [1, 2, 3, 0] rfl) hP hD hS
          clear ej106
          refine lv_if_ne (pc := 90) (tgt := 96) hx hb dX12_fitsBy_90 (by decide) (fun c_90 => ?_) (fun c_90 => ?_)
          · replace hf := it_f c_90 hf
            refine lv_aload_n (pc := 96) hx hb dX12_fitsBy_96 rfl (lv_at hl 0 rfl) ?_
            refine r_get (pc := 97) C hP 0 rfl fl_X12_55 rfl dX12_fitsBy_97 ?_
            refine lv_iload_n (pc := 100) hx hb dX12_fitsBy_100 rfl (lv_at hl 2 rfl) ?_
            refine lv_iload_n (pc := 101) hx hb dX12_fitsBy_101 rfl (lv_at hl 3 rfl) ?_
            obtain ⟨hi_102, hf⟩ := gd_s hf
            refine r_iast (pc := 102) (ws' := [(h, .inr (11, [.int v_thrown, .int v_trouble, .int v_where, .ref h_inn, va_rf v_read, .ref h_tape, .int v_taped, .int v_size, .int v_at, .int v_sort, .int v_place, .int v_sign, .int v_number, .int v_fault, .int v_wrongAt, .long v_word, .ref h_far, .ref h_from, .ref h_real, .ref h_other, .ref h_kept, .ref h_set, .ref h_other, .int v_marks, .int v_notes, .ref h_book, .ref h_noteSort, .ref h_whose, .ref h_what, .ref h_noteIs, .ref h_fitting, .ref h_dawn, .ref h_likes, .ref h_walked, .ref h_came])), (h_inn, .inr (10, [.int v_inn_minutes, .int v_inn_rooms, .int v_inn_doors, .int v_inn_things, .int v_inn_dreams, .int v_inn_sleepers, .int v_inn_listeners, .int v_inn_names, .ref h_inn_creak, .ref h_inn_doorA, .ref h_inn_doorB, .ref h_inn_how, .ref h_inn_lies, .ref h_inn_isCold, .ref h_inn_falls, .ref h_inn_isFull, .ref h_inn_isTold, .ref h_inn_act, .ref h_inn_what, .ref h_inn_then, .ref h_inn_met, .ref h_inn_bed, .ref h_inn_dream, .ref h_inn_listens, .ref h_inn_name, .ref h_inn_nameSort, .ref h_inn_nameNumber])), (h_other, aI E 51 v_other_29), (h_inn_how, aI E 10 v_inn_how), (h_inn_lies, aI E 4 v_inn_lies), (h_inn_isFull, aZ E 4 v_inn_isFull), (h_inn_bed, aI E 3 v_inn_bed), (h_inn_isTold, aZ E 16 v_inn_isTold), (h_inn_act, aI E 16 v_inn_act), (h_inn_then, aI E 16 v_inn_then), (h_inn_what, aI E 16 v_inn_what), (h_inn_doorA, aI E 10 v_inn_doorA), (h_inn_doorB, aI E 10 v_inn_doorB), (h_from, aI E 8 v_from_29), (h_inn_falls, aZ E 10 v_inn_falls), (h_inn_creak, aI E 8 v_inn_creak), (h_inn_listens, aI E 3 v_inn_listens), (h_far, aI E 64 v_far), (h_inn_isCold, aZ E 8 v_inn_isCold), (h_inn_met, aI E 16 v_inn_met), (h_fitting, aI E 64 (upd x12_fitting x12_2.toNatClampNeg x12_3)), (h_book, aI E 20 v_book), (h_noteSort, aI E 20 v_noteSort), (h_whose, aI E 20 v_whose), (h_what, aI E 20 v_what), (h_noteIs, aZ E 20 v_noteIs)]) C hP hD hS 20 rfl hi_102 rfl dX12_fitsBy_102 ?_
            clear hP hD hS; intro H locs hP hD hS
            refine lv_iinc (pc := 103) (v := x12_2 + 1) (lv' := [(2, .int (x12_2 + 1)), (0, .ref h), (1, .int p0), (3, .int x12_3), (4, .int x88_4)]) hx hb dX12_fitsBy_103 hl (k := 2) rfl rfl (by decide) rfl (fun ls hl => ?_)
            exact hj106 (x12_2 + 1) (upd x12_fitting x12_2.toNatClampNeg x12_3) hf _ _ _ (lv_sub hl [1, 2, 0, 3] rfl) hP hD hS
          · replace hf := it_t c_90 hf
            refine lv_goto (pc := 93) (tgt := 106) hx hb dX12_fitsBy_93 (by decide) ?_
            exact hj106 x12_2 x12_fitting hf _ _ _ (lv_sub hl [0, 1, 2, 3] rfl) hP hD hS
        clear eK88
        have key38 : ∀ (n : Nat) (x38_4 : Int32) (x38_5 : Int32) , lp (BX12_fitsBy_38 v_notes N p0 v_book v_noteSort v_whose v_other_29 v_what v_noteIs K88) n (x38_4, x38_5) = some z → AT p l e (rmOf 7 160) s m args below meth c E A Q 0 0 6 [(0, .ref h), (1, .int p0), (2, .int x12_2), (3, .int x12_3), (4, .int x38_4), (5, .int x38_5)] [(h, .inr (11, [.int v_thrown, .int v_trouble, .int v_where, .ref h_inn, va_rf v_read, .ref h_tape, .int v_taped, .int v_size, .int v_at, .int v_sort, .int v_place, .int v_sign, .int v_number, .int v_fault, .int v_wrongAt, .long v_word, .ref h_far, .ref h_from, .ref h_real, .ref h_other, .ref h_kept, .ref h_set, .ref h_other, .int v_marks, .int v_notes, .ref h_book, .ref h_noteSort, .ref h_whose, .ref h_what, .ref h_noteIs, .ref h_fitting, .ref h_dawn, .ref h_likes, .ref h_walked, .ref h_came])), (h_inn, .inr (10, [.int v_inn_minutes, .int v_inn_rooms, .int v_inn_doors, .int v_inn_things, .int v_inn_dreams, .int v_inn_sleepers, .int v_inn_listeners, .int v_inn_names, .ref h_inn_creak, .ref h_inn_doorA, .ref h_inn_doorB, .ref h_inn_how, .ref h_inn_lies, .ref h_inn_isCold, .ref h_inn_falls, .ref h_inn_isFull, .ref h_inn_isTold, .ref h_inn_act, .ref h_inn_what, .ref h_inn_then, .ref h_inn_met, .ref h_inn_bed, .ref h_inn_dream, .ref h_inn_listens, .ref h_inn_name, .ref h_inn_nameSort, .ref h_inn_nameNumber])), (h_other, aI E 51 v_other_29), (h_inn_how, aI E 10 v_inn_how), (h_inn_lies, aI E 4 v_inn_lies), (h_inn_isFull, aZ E 4 v_inn_isFull), (h_inn_bed, aI E 3 v_inn_bed), (h_inn_isTold, aZ E 16 v_inn_isTold), (h_inn_act, aI E 16 v_inn_act), (h_inn_then, aI E 16 v_inn_then), (h_inn_what, aI E 16 v_inn_what), (h_inn_doorA, aI E 10 v_inn_doorA), (h_inn_doorB, aI E 10 v_inn_doorB), (h_from, aI E 8 v_from_29), (h_inn_falls, aZ E 10 v_inn_falls), (h_inn_creak, aI E 8 v_inn_creak), (h_inn_listens, aI E 3 v_inn_listens), (h_far, aI E 64 v_far), (h_inn_isCold, aZ E 8 v_inn_isCold), (h_inn_met, aI E 16 v_inn_met), (h_fitting, aI E 64 x12_fitting), (h_book, aI E 20 v_book), (h_noteSort, aI E 20 v_noteSort), (h_whose, aI E 20 v_whose), (h_what, aI E 20 v_what), (h_noteIs, aZ E 20 v_noteIs)] 38 [] := by
          intro n
          induction n with
          | zero => intro x38_4 x38_5 hf; exact (lp_0 hf).elim
          | succ n ih38 =>
            intro x38_4 x38_5 hf H locs ls hl hP hD hS
            replace hf := lp_s hf
            generalize lp (BX12_fitsBy_38 v_notes N p0 v_book v_noteSort v_whose v_other_29 v_what v_noteIs K88) n = rec38 at ih38 hf
            unfold BX12_fitsBy_38 at hf
            replace hf := un2_s hf
            refine lv_iload (pc := 38) hx hb dX12_fitsBy_38 (lv_at hl 5 rfl) ?_
            refine lv_aload_n (pc := 40) hx hb dX12_fitsBy_40 rfl (lv_at hl 0 rfl) ?_
            refine r_get (pc := 41) C hP 0 rfl fl_X12_360 rfl dX12_fitsBy_41 ?_
            refine lv_icmp_ge (pc := 44) (tgt := 88) hx hb dX12_fitsBy_44 (by decide) (fun c_44 => ?_) (fun c_44 => ?_)
            · replace hf := it_t c_44 hf
              exact hK88 x38_4 hf _ _ _ (lv_sub hl [0, 1, 2, 3, 4] rfl) hP hD hS
            · replace hf := it_f c_44 hf
              refine lv_iload (pc := 47) hx hb dX12_fitsBy_47 (lv_at hl 4 rfl) ?_
              refine jnK hf (fun j80 ej80 hf => ?_)
              have hj80 : ∀ (x80_s0 : Int32) , j80 x80_s0 = some z → AT p l e (rmOf 7 160) s m args below meth c E A Q 0 0 6 [(0, .ref h), (1, .int p0), (2, .int x12_2), (3, .int x12_3), (5, .int x38_5)] [(h, .inr (11, [.int v_thrown, .int v_trouble, .int v_where, .ref h_inn, va_rf v_read, .ref h_tape, .int v_taped, .int v_size, .int v_at, .int v_sort, .int v_place, .int v_sign, .int v_number, .int v_fault, .int v_wrongAt, .long v_word, .ref h_far, .ref h_from, .ref h_real, .ref h_other, .ref h_kept, .ref h_set, .ref h_other, .int v_marks, .int v_notes, .ref h_book, .ref h_noteSort, .ref h_whose, .ref h_what, .ref h_noteIs, .ref h_fitting, .ref h_dawn, .ref h_likes, .ref h_walked, .ref h_came])), (h_inn, .inr (10, [.int v_inn_minutes, .int v_inn_rooms, .int v_inn_doors, .int v_inn_things, .int v_inn_dreams, .int v_inn_sleepers, .int v_inn_listeners, .int v_inn_names, .ref h_inn_creak, .ref h_inn_doorA, .ref h_inn_doorB, .ref h_inn_how, .ref h_inn_lies, .ref h_inn_isCold, .ref h_inn_falls, .ref h_inn_isFull, .ref h_inn_isTold, .ref h_inn_act, .ref h_inn_what, .ref h_inn_then, .ref h_inn_met, .ref h_inn_bed, .ref h_inn_dream, .ref h_inn_listens, .ref h_inn_name, .ref h_inn_nameSort, .ref h_inn_nameNumber])), (h_other, aI E 51 v_other_29), (h_inn_how, aI E 10 v_inn_how), (h_inn_lies, aI E 4 v_inn_lies), (h_inn_isFull, aZ E 4 v_inn_isFull), (h_inn_bed, aI E 3 v_inn_bed), (h_inn_isTold, aZ E 16 v_inn_isTold), (h_inn_act, aI E 16 v_inn_act), (h_inn_then, aI E 16 v_inn_then), (h_inn_what, aI E 16 v_inn_what), (h_inn_doorA, aI E 10 v_inn_doorA), (h_inn_doorB, aI E 10 v_inn_doorB), (h_from, aI E 8 v_from_29), (h_inn_falls, aZ E 10 v_inn_falls), (h_inn_creak, aI E 8 v_inn_creak), (h_inn_listens, aI E 3 v_inn_listens), (h_far, aI E 64 v_far), (h_inn_isCold, aZ E 8 v_inn_isCold), (h_inn_met, aI E 16 v_inn_met), (h_fitting, aI E 64 x12_fitting), (h_book, aI E 20 v_book), (h_noteSort, aI E 20 v_noteSort), (h_whose, aI E 20 v_whose), (h_what, aI E 20 v_what), (h_noteIs, aZ E 20 v_noteIs)] 80 [.int x80_s0] := by
                intro x80_s0 hf H locs ls hl hP hD hS
                rw [ej80] at hf
                replace hf := un1_s hf
                refine lv_istore (pc := 80) (lv' := [(4, .int x80_s0), (0, .ref h), (1, .int p0), (2, .int x12_2), (3, .int x12_3), (5, .int x38_5)]) hx hb dX12_fitsBy_80 hl (by decide) rfl (fun ls hl => ?_)
                refine lv_iinc (pc := 82) (v := x38_5 + 1) (lv' := [(5, .int (x38_5 + 1)), (4, .int x80_s0), (0, .ref h), (1, .int p0), (2, .int x12_2), (3, .int x12_3)]) hx hb dX12_fitsBy_82 hl (k := 5) rfl rfl (by decide) rfl (fun ls hl => ?_)
                refine lv_goto (pc := 85) (tgt := 38) hx hb dX12_fitsBy_85 (by decide) ?_
                exact ih38 x80_s0 (x38_5 + 1) hf _ _ _ (lv_sub hl [2, 3, 4, 5, 1, 0] rfl) hP hD hS
              clear ej80
              refine jnK hf (fun j79 ej79 hf => ?_)
              have hj79 : j79 () = some z → AT p l e (rmOf 7 160) s m args below meth c E A Q 0 0 6 [(0, .ref h), (1, .int p0), (2, .int x12_2), (3, .int x12_3), (5, .int x38_5)] [(h, .inr (11, [.int v_thrown, .int v_trouble, .int v_where, .ref h_inn, va_rf v_read, .ref h_tape, .int v_taped, .int v_size, .int v_at, .int v_sort, .int v_place, .int v_sign, .int v_number, .int v_fault, .int v_wrongAt, .long v_word, .ref h_far, .ref h_from, .ref h_real, .ref h_other, .ref h_kept, .ref h_set, .ref h_other, .int v_marks, .int v_notes, .ref h_book, .ref h_noteSort, .ref h_whose, .ref h_what, .ref h_noteIs, .ref h_fitting, .ref h_dawn, .ref h_likes, .ref h_walked, .ref h_came])), (h_inn, .inr (10, [.int v_inn_minutes, .int v_inn_rooms, .int v_inn_doors, .int v_inn_things, .int v_inn_dreams, .int v_inn_sleepers, .int v_inn_listeners, .int v_inn_names, .ref h_inn_creak, .ref h_inn_doorA, .ref h_inn_doorB, .ref h_inn_how, .ref h_inn_lies, .ref h_inn_isCold, .ref h_inn_falls, .ref h_inn_isFull, .ref h_inn_isTold, .ref h_inn_act, .ref h_inn_what, .ref h_inn_then, .ref h_inn_met, .ref h_inn_bed, .ref h_inn_dream, .ref h_inn_listens, .ref h_inn_name, .ref h_inn_nameSort, .ref h_inn_nameNumber])), (h_other, aI E 51 v_other_29), (h_inn_how, aI E 10 v_inn_how), (h_inn_lies, aI E 4 v_inn_lies), (h_inn_isFull, aZ E 4 v_inn_isFull), (h_inn_bed, aI E 3 v_inn_bed), (h_inn_isTold, aZ E 16 v_inn_isTold), (h_inn_act, aI E 16 v_inn_act), (h_inn_then, aI E 16 v_inn_then), (h_inn_what, aI E 16 v_inn_what), (h_inn_doorA, aI E 10 v_inn_doorA), (h_inn_doorB, aI E 10 v_inn_doorB), (h_from, aI E 8 v_from_29), (h_inn_falls, aZ E 10 v_inn_falls), (h_inn_creak, aI E 8 v_inn_creak), (h_inn_listens, aI E 3 v_inn_listens), (h_far, aI E 64 v_far), (h_inn_isCold, aZ E 8 v_inn_isCold), (h_inn_met, aI E 16 v_inn_met), (h_fitting, aI E 64 x12_fitting), (h_book, aI E 20 v_book), (h_noteSort, aI E 20 v_noteSort), (h_whose, aI E 20 v_whose), (h_what, aI E 20 v_what), (h_noteIs, aZ E 20 v_noteIs)] 79 [] := by
                intro  hf H locs ls hl hP hD hS
                rw [ej79] at hf
                replace hf := un0_s hf
                refine lv_iconst (pc := 79) (v := 0) hx hb dX12_fitsBy_79 (by decide) ?_
                exact hj80 0 hf _ _ _ (lv_sub hl [0, 1, 2, 3, 4] rfl) hP hD hS
              clear ej79
              refine lv_if_eq (pc := 49) (tgt := 79) hx hb dX12_fitsBy_49 (by decide) (fun c_49 => ?_) (fun c_49 => ?_)
              · replace hf := it_t c_49 hf
                exact hj79  hf _ _ _ (lv_sub hl [0, 1, 2, 3, 5] rfl) hP hD hS
              · replace hf := it_f c_49 hf
                refine lv_iload_n (pc := 52) hx hb dX12_fitsBy_52 rfl (lv_at hl 1 rfl) ?_
                refine lv_aload_n (pc := 53) hx hb dX12_fitsBy_53 rfl (lv_at hl 0 rfl) ?_
                refine r_get (pc := 54) C hP 0 rfl fl_X12_39 rfl dX12_fitsBy_54 ?_
                refine lv_iload (pc := 57) hx hb dX12_fitsBy_57 (lv_at hl 5 rfl) ?_
                obtain ⟨hi_59, hf⟩ := gd_s hf
                refine r_iald (pc := 59) C hP 21 rfl hi_59 dX12_fitsBy_59 ?_
                obtain ⟨r_60, hc_60, hf⟩ := bd1 hf
                refine r_dalSi (pc := 60) (Cn := "") (h := 0) (ws' := [(h, .inr (11, [.int v_thrown, .int v_trouble, .int v_where, .ref h_inn, va_rf v_read, .ref h_tape, .int v_taped, .int v_size, .int v_at, .int v_sort, .int v_place, .int v_sign, .int v_number, .int v_fault, .int v_wrongAt, .long v_word, .ref h_far, .ref h_from, .ref h_real, .ref h_other, .ref h_kept, .ref h_set, .ref h_other, .int v_marks, .int v_notes, .ref h_book, .ref h_noteSort, .ref h_whose, .ref h_what, .ref h_noteIs, .ref h_fitting, .ref h_dawn, .ref h_likes, .ref h_walked, .ref h_came])), (h_inn, .inr (10, [.int v_inn_minutes, .int v_inn_rooms, .int v_inn_doors, .int v_inn_things, .int v_inn_dreams, .int v_inn_sleepers, .int v_inn_listeners, .int v_inn_names, .ref h_inn_creak, .ref h_inn_doorA, .ref h_inn_doorB, .ref h_inn_how, .ref h_inn_lies, .ref h_inn_isCold, .ref h_inn_falls, .ref h_inn_isFull, .ref h_inn_isTold, .ref h_inn_act, .ref h_inn_what, .ref h_inn_then, .ref h_inn_met, .ref h_inn_bed, .ref h_inn_dream, .ref h_inn_listens, .ref h_inn_name, .ref h_inn_nameSort, .ref h_inn_nameNumber])), (h_other, aI E 51 v_other_29), (h_inn_how, aI E 10 v_inn_how), (h_inn_lies, aI E 4 v_inn_lies), (h_inn_isFull, aZ E 4 v_inn_isFull), (h_inn_bed, aI E 3 v_inn_bed), (h_inn_isTold, aZ E 16 v_inn_isTold), (h_inn_act, aI E 16 v_inn_act), (h_inn_then, aI E 16 v_inn_then), (h_inn_what, aI E 16 v_inn_what), (h_inn_doorA, aI E 10 v_inn_doorA), (h_inn_doorB, aI E 10 v_inn_doorB), (h_from, aI E 8 v_from_29), (h_inn_falls, aZ E 10 v_inn_falls), (h_inn_creak, aI E 8 v_inn_creak), (h_inn_listens, aI E 3 v_inn_listens), (h_far, aI E 64 v_far), (h_inn_isCold, aZ E 8 v_inn_isCold), (h_inn_met, aI E 16 v_inn_met), (h_fitting, aI E 64 x12_fitting), (h_book, aI E 20 v_book), (h_noteSort, aI E 20 v_noteSort), (h_whose, aI E 20 v_whose), (h_what, aI E 20 v_what), (h_noteIs, aZ E 20 v_noteIs)]) (As := [.int p0, .int (v_book x38_5.toNatClampNeg)]) (rest := []) C (ctX12_has l E N p0 (v_book x38_5.toNatClampNeg) r_60 hc_60) ml_X12_372 ⟨Nat.le_of_ble_eq_true rfl, Nat.le_of_ble_eq_true rfl⟩ hP hD hS [] [0, 1, 2, 3, 4, 5, 6, 7, 8, 9, 10, 11, 12, 13, 14, 15, 16, 17, 18, 19, 20, 21, 22, 23, 24, 25] 26 rfl rfl rfl rfl rfl rfl rfl hl.1 rfl (Nat.le_of_ble_eq_true rfl) ⟨Nat.zero_le _, Nat.zero_le _⟩ dX12_fitsBy_60 ?_
                clear hP hD hS; intro H locs hP hD hS
                refine jnK hf (fun j75 ej75 hf => ?_)
                have hj75 : j75 () = some z → AT p l e (rmOf 7 160) s m args below meth c E A Q 0 0 6 [(0, .ref h), (1, .int p0), (2, .int x12_2), (3, .int x12_3), (5, .int x38_5)] [(h, .inr (11, [.int v_thrown, .int v_trouble, .int v_where, .ref h_inn, va_rf v_read, .ref h_tape, .int v_taped, .int v_size, .int v_at, .int v_sort, .int v_place, .int v_sign, .int v_number, .int v_fault, .int v_wrongAt, .long v_word, .ref h_far, .ref h_from, .ref h_real, .ref h_other, .ref h_kept, .ref h_set, .ref h_other, .int v_marks, .int v_notes, .ref h_book, .ref h_noteSort, .ref h_whose, .ref h_what, .ref h_noteIs, .ref h_fitting, .ref h_dawn, .ref h_likes, .ref h_walked, .ref h_came])), (h_inn, .inr (10, [.int v_inn_minutes, .int v_inn_rooms, .int v_inn_doors, .int v_inn_things, .int v_inn_dreams, .int v_inn_sleepers, .int v_inn_listeners, .int v_inn_names, .ref h_inn_creak, .ref h_inn_doorA, .ref h_inn_doorB, .ref h_inn_how, .ref h_inn_lies, .ref h_inn_isCold, .ref h_inn_falls, .ref h_inn_isFull, .ref h_inn_isTold, .ref h_inn_act, .ref h_inn_what, .ref h_inn_then, .ref h_inn_met, .ref h_inn_bed, .ref h_inn_dream, .ref h_inn_listens, .ref h_inn_name, .ref h_inn_nameSort, .ref h_inn_nameNumber])), (h_other, aI E 51 v_other_29), (h_inn_how, aI E 10 v_inn_how), (h_inn_lies, aI E 4 v_inn_lies), (h_inn_isFull, aZ E 4 v_inn_isFull), (h_inn_bed, aI E 3 v_inn_bed), (h_inn_isTold, aZ E 16 v_inn_isTold), (h_inn_act, aI E 16 v_inn_act), (h_inn_then, aI E 16 v_inn_then), (h_inn_what, aI E 16 v_inn_what), (h_inn_doorA, aI E 10 v_inn_doorA), (h_inn_doorB, aI E 10 v_inn_doorB), (h_from, aI E 8 v_from_29), (h_inn_falls, aZ E 10 v_inn_falls), (h_inn_creak, aI E 8 v_inn_creak), (h_inn_listens, aI E 3 v_inn_listens), (h_far, aI E 64 v_far), (h_inn_isCold, aZ E 8 v_inn_isCold), (h_inn_met, aI E 16 v_inn_met), (h_fitting, aI E 64 x12_fitting), (h_book, aI E 20 v_book), (h_noteSort, aI E 20 v_noteSort), (h_whose, aI E 20 v_whose), (h_what, aI E 20 v_what), (h_noteIs, aZ E 20 v_noteIs)] 75 [] := by
                  intro  hf H locs ls hl hP hD hS
                  rw [ej75] at hf
                  replace hf := un0_s hf
                  refine lv_iconst (pc := 75) (v := 1) hx hb dX12_fitsBy_75 (by decide) ?_
                  refine lv_goto (pc := 76) (tgt := 80) hx hb dX12_fitsBy_76 (by decide) ?_
                  exact hj80 1 hf _ _ _ (lv_sub hl [0, 1, 2, 3, 4] rfl) hP hD hS
                clear ej75
                refine lv_if_eq (pc := 63) (tgt := 75) hx hb dX12_fitsBy_63 (by decide) (fun c_63 => ?_) (fun c_63 => ?_)
                · replace hf := it_t c_63 hf
                  exact hj75  hf _ _ _ (lv_sub hl [0, 1, 2, 3, 5] rfl) hP hD hS
                · replace hf := it_f c_63 hf
                  refine lv_aload_n (pc := 66) hx hb dX12_fitsBy_66 rfl (lv_at hl 0 rfl) ?_
                  refine lv_iload (pc := 67) hx hb dX12_fitsBy_67 (lv_at hl 5 rfl) ?_
                  obtain ⟨r_69, hc_69, hf⟩ := bd1 hf
                  refine r_dalVi (pc := 69) (ws' := [(h, .inr (11, [.int v_thrown, .int v_trouble, .int v_where, .ref h_inn, va_rf v_read, .ref h_tape, .int v_taped, .int v_size, .int v_at, .int v_sort, .int v_place, .int v_sign, .int v_number, .int v_fault, .int v_wrongAt, .long v_word, .ref h_far, .ref h_from, .ref h_real, .ref h_other, .ref h_kept, .ref h_set, .ref h_other, .int v_marks, .int v_notes, .ref h_book, .ref h_noteSort, .ref h_whose, .ref h_what, .ref h_noteIs, .ref h_fitting, .ref h_dawn, .ref h_likes, .ref h_walked, .ref h_came])), (h_inn, .inr (10, [.int v_inn_minutes, .int v_inn_rooms, .int v_inn_doors, .int v_inn_things, .int v_inn_dreams, .int v_inn_sleepers, .int v_inn_listeners, .int v_inn_names, .ref h_inn_creak, .ref h_inn_doorA, .ref h_inn_doorB, .ref h_inn_how, .ref h_inn_lies, .ref h_inn_isCold, .ref h_inn_falls, .ref h_inn_isFull, .ref h_inn_isTold, .ref h_inn_act, .ref h_inn_what, .ref h_inn_then, .ref h_inn_met, .ref h_inn_bed, .ref h_inn_dream, .ref h_inn_listens, .ref h_inn_name, .ref h_inn_nameSort, .ref h_inn_nameNumber])), (h_other, aI E 51 v_other_29), (h_inn_how, aI E 10 v_inn_how), (h_inn_lies, aI E 4 v_inn_lies), (h_inn_isFull, aZ E 4 v_inn_isFull), (h_inn_bed, aI E 3 v_inn_bed), (h_inn_isTold, aZ E 16 v_inn_isTold), (h_inn_act, aI E 16 v_inn_act), (h_inn_then, aI E 16 v_inn_then), (h_inn_what, aI E 16 v_inn_what), (h_inn_doorA, aI E 10 v_inn_doorA), (h_inn_doorB, aI E 10 v_inn_doorB), (h_from, aI E 8 v_from_29), (h_inn_falls, aZ E 10 v_inn_falls), (h_inn_creak, aI E 8 v_inn_creak), (h_inn_listens, aI E 3 v_inn_listens), (h_far, aI E 64 v_far), (h_inn_isCold, aZ E 8 v_inn_isCold), (h_inn_met, aI E 16 v_inn_met), (h_fitting, aI E 64 x12_fitting), (h_book, aI E 20 v_book), (h_noteSort, aI E 20 v_noteSort), (h_whose, aI E 20 v_whose), (h_what, aI E 20 v_what), (h_noteIs, aZ E 20 v_noteIs)]) (As := [.int x38_5]) (rest := []) C (ctX12_isNoted l E h h_tape h_far h_from h_real h_other h_kept h_set h_other h_book h_noteSort h_whose h_what h_noteIs h_fitting h_dawn h_likes h_walked h_came v_thrown v_trouble v_where (some h_inn) v_read v_taped v_size v_at v_sort v_place v_sign v_number v_fault v_wrongAt v_word v_marks v_notes v_noteSort v_whose v_other_29 v_what v_noteIs N x38_5 r_69 hc_69) ml_X12_458 ⟨Nat.le_of_ble_eq_true rfl, Nat.le_of_ble_eq_true rfl⟩ hP hD hS 0 rfl rfl rfl [0, 22, 23, 2, 24, 25] [26, 1, 29, 3, 4, 5, 6, 7, 8, 9, 10, 11, 12, 13, 14, 15, 16, 17, 18, 19, 20, 21, 27, 28, 30, 31] 26 rfl rfl rfl rfl rfl rfl rfl hl.1 rfl (Nat.le_of_ble_eq_true rfl) ⟨Nat.zero_le _, Nat.zero_le _⟩ dX12_fitsBy_69 ?_
                  clear hP hD hS; intro H locs hP hD hS
                  refine lv_if_eq (pc := 72) (tgt := 79) hx hb dX12_fitsBy_72 (by decide) (fun c_72 => ?_) (fun c_72 => ?_)
                  · replace hf := it_t c_72 hf
                    exact hj79  hf _ _ _ (lv_sub hl [0, 1, 2, 3, 5] rfl) hP hD hS
                  · replace hf := it_f c_72 hf
                    exact hj75  hf _ _ _ (lv_sub hl [0, 1, 2, 3, 5] rfl) hP hD hS
        exact key38 _ 1 0 hf _ _ _ (lv_sub hl [2, 3, 4, 5, 1, 0] rfl) hP hD hS
  exact key12 _ 0 0 v_other v_from v_fitting hf _ _ _ (lv_sub hl [2, 3, 1, 0] rfl) hP hD hS
def wX12_refusesBooks (E : EN) (h h_inn h_tape h_far h_from h_real h_other h_kept h_set h_w h_book h_noteSort h_whose h_what h_noteIs h_fitting h_dawn h_likes h_walked h_came : Nat) (v_thrown : Int32) (v_trouble : Int32) (v_where : Int32) (v_read : Option Nat) (v_taped : Int32) (v_size : Int32) (v_at : Int32) (v_sort : Int32) (v_place : Int32) (v_sign : Int32) (v_number : Int32) (v_fault : Int32) (v_wrongAt : Int32) (v_word : Int64) (v_marks : Int32) (v_notes : Int32) : va_W := [(h, .inr (11, [.int v_thrown, .int v_trouble, .int v_where, .ref h_inn, va_rf v_read, .ref h_tape, .int v_taped, .int v_size, .int v_at, .int v_sort, .int v_place, .int v_sign, .int v_number, .int v_fault, .int v_wrongAt, .long v_word, .ref h_far, .ref h_from, .ref h_real, .ref h_other, .ref h_kept, .ref h_set, .ref h_w, .int v_marks, .int v_notes, .ref h_book, .ref h_noteSort, .ref h_whose, .ref h_what, .ref h_noteIs, .ref h_fitting, .ref h_dawn, .ref h_likes, .ref h_walked, .ref h_came]))]
def fX12_refusesBooks (N : Nat) (p0 : Int32) : Option Int32 := (fX12_in N p0 0 3).bind (un1 fun (r_14 : Int32) => if r_14 = 0 then (some 2) else (some 0))
set_option maxHeartbeats 4000000 in
set_option maxRecDepth 100000 in
theorem ctX12_refusesBooks (l : Launch) (E : EN) (h h_inn h_tape h_far h_from h_real h_other h_kept h_set h_w h_book h_noteSort h_whose h_what h_noteIs h_fitting h_dawn h_likes h_walked h_came : Nat) (v_thrown : Int32) (v_trouble : Int32) (v_where : Int32) (v_read : Option Nat) (v_taped : Int32) (v_size : Int32) (v_at : Int32) (v_sort : Int32) (v_place : Int32) (v_sign : Int32) (v_number : Int32) (v_fault : Int32) (v_wrongAt : Int32) (v_word : Int64) (v_marks : Int32) (v_notes : Int32) (N : Nat) (p0 : Int32) (z : Int32) (hf : fX12_refusesBooks N p0 = some z) : CTi l E yX12_refusesBooks cX12_refusesBooks 2 .int 1 22 [.ref h, .int p0] (wX12_refusesBooks E h h_inn h_tape h_far h_from h_real h_other h_kept h_set h_w h_book h_noteSort h_whose h_what h_noteIs h_fitting h_dawn h_likes h_walked h_came v_thrown v_trouble v_where v_read v_taped v_size v_at v_sort v_place v_sign v_number v_fault v_wrongAt v_word v_marks v_notes) (z) (wX12_refusesBooks E h h_inn h_tape h_far h_from h_real h_other h_kept h_set h_w h_book h_noteSort h_whose h_what h_noteIs h_fitting h_dawn h_likes h_walked h_came v_thrown v_trouble v_where v_read v_taped v_size v_at v_sort v_place v_sign v_number v_fault v_wrongAt v_word v_marks v_notes) := by
  intro sz
  refine ct_body (by decide) (Nat.le_of_ble_eq_true rfl) ?_
  intro p e s m args below meth c A ls hAe C hr hin hP hD hS hl
  have C : CX p s m args meth c cX12_refusesBooks RX12 2 E A := C
  have hl : lv_has ls 2 [(0, .ref h), (1, .int p0)] := hl
  have hx := C.1
  have hb := C.2.1
  rw [hAe]
  clear hAe
  obtain ⟨Q, hQ⟩ : ∃ Q, Q = MQ below (Qi E A (z) (wX12_refusesBooks E h h_inn h_tape h_far h_from h_real h_other h_kept h_set h_w h_book h_noteSort h_whose h_what h_noteIs h_fitting h_dawn h_likes h_walked h_came v_thrown v_trouble v_where v_read v_taped v_size v_at v_sort v_place v_sign v_number v_fault v_wrongAt v_word v_marks v_notes)) args s 0 0 A := ⟨_, rfl⟩
  rw [← hQ]
  unfold fX12_refusesBooks at hf
  refine lv_aload_n (pc := 0) hx hb dX12_refusesBooks_0 rfl (lv_at hl 0 rfl) ?_
  refine r_get (pc := 1) C hP 0 rfl fl_X12_358 rfl dX12_refusesBooks_1 ?_
  refine lv_ifnonnull (pc := 4) (tgt := 11) hx hb dX12_refusesBooks_4 (by decide) ?_
  refine lv_iload_n (pc := 11) hx hb dX12_refusesBooks_11 rfl (lv_at hl 1 rfl) ?_
  refine lv_iconst (pc := 12) (v := 0) hx hb dX12_refusesBooks_12 (by decide) ?_
  refine lv_iconst (pc := 13) (v := 3) hx hb dX12_refusesBooks_13 (by decide) ?_
  obtain ⟨r_14, hc_14, hf⟩ := bd1 hf
  refine r_dalSi (pc := 14) (Cn := "") (h := 0) (ws' := (wX12_refusesBooks E h h_inn h_tape h_far h_from h_real h_other h_kept h_set h_w h_book h_noteSort h_whose h_what h_noteIs h_fitting h_dawn h_likes h_walked h_came v_thrown v_trouble v_where v_read v_taped v_size v_at v_sort v_place v_sign v_number v_fault v_wrongAt v_word v_marks v_notes)) (As := [.int p0, .int 0, .int 3]) (rest := []) C (ctX12_in l E N p0 0 3 r_14 hc_14) ml_X12_149 ⟨Nat.le_of_ble_eq_true rfl, Nat.le_of_ble_eq_true rfl⟩ hP hD hS [] [0] 1 rfl rfl rfl rfl rfl rfl rfl hl.1 rfl (Nat.le_of_ble_eq_true rfl) ⟨Nat.zero_le _, Nat.zero_le _⟩ dX12_refusesBooks_14 ?_
  clear hP hD hS; intro H locs hP hD hS
  refine lv_if_eq (pc := 17) (tgt := 24) hx hb dX12_refusesBooks_17 (by decide) (fun c_17 => ?_) (fun c_17 => ?_)
  · replace hf := it_t c_17 hf
    refine lv_iconst (pc := 24) (v := 2) hx hb dX12_refusesBooks_24 (by decide) ?_
    cases hf
    rw [hQ]
    exact r_iret C hr hP hD hS rfl dX12_refusesBooks_25
  · replace hf := it_f c_17 hf
    refine lv_iconst (pc := 20) (v := 0) hx hb dX12_refusesBooks_20 (by decide) ?_
    refine lv_goto (pc := 21) (tgt := 25) hx hb dX12_refusesBooks_21 (by decide) ?_
    cases hf
    rw [hQ]
    exact r_iret C hr hP hD hS rfl dX12_refusesBooks_25
def wX12_refusesBooks0 (E : EN) (h h_tape h_far h_from h_real h_other h_kept h_set h_w h_book h_noteSort h_whose h_what h_noteIs h_fitting h_dawn h_likes h_walked h_came : Nat) (v_thrown : Int32) (v_trouble : Int32) (v_where : Int32) (v_read : Option Nat) (v_taped : Int32) (v_size : Int32) (v_at : Int32) (v_sort : Int32) (v_place : Int32) (v_sign : Int32) (v_number : Int32) (v_fault : Int32) (v_wrongAt : Int32) (v_word : Int64) (v_marks : Int32) (v_notes : Int32) : va_W := [(h, .inr (11, [.int v_thrown, .int v_trouble, .int v_where, .null, va_rf v_read, .ref h_tape, .int v_taped, .int v_size, .int v_at, .int v_sort, .int v_place, .int v_sign, .int v_number, .int v_fault, .int v_wrongAt, .long v_word, .ref h_far, .ref h_from, .ref h_real, .ref h_other, .ref h_kept, .ref h_set, .ref h_w, .int v_marks, .int v_notes, .ref h_book, .ref h_noteSort, .ref h_whose, .ref h_what, .ref h_noteIs, .ref h_fitting, .ref h_dawn, .ref h_likes, .ref h_walked, .ref h_came]))]
def fX12_refusesBooks0 (N : Nat) : Option Int32 := some 1
set_option maxHeartbeats 4000000 in
set_option maxRecDepth 100000 in
theorem ctX12_refusesBooks0 (l : Launch) (E : EN) (h h_tape h_far h_from h_real h_other h_kept h_set h_w h_book h_noteSort h_whose h_what h_noteIs h_fitting h_dawn h_likes h_walked h_came : Nat) (v_thrown : Int32) (v_trouble : Int32) (v_where : Int32) (v_read : Option Nat) (v_taped : Int32) (v_size : Int32) (v_at : Int32) (v_sort : Int32) (v_place : Int32) (v_sign : Int32) (v_number : Int32) (v_fault : Int32) (v_wrongAt : Int32) (v_word : Int64) (v_marks : Int32) (v_notes : Int32) (N : Nat) (p0 : Int32) (z : Int32) (hf : fX12_refusesBooks0 N  = some z) : CTi l E yX12_refusesBooks cX12_refusesBooks 2 .int 0 0 [.ref h, .int p0] (wX12_refusesBooks0 E h h_tape h_far h_from h_real h_other h_kept h_set h_w h_book h_noteSort h_whose h_what h_noteIs h_fitting h_dawn h_likes h_walked h_came v_thrown v_trouble v_where v_read v_taped v_size v_at v_sort v_place v_sign v_number v_fault v_wrongAt v_word v_marks v_notes) (z) (wX12_refusesBooks0 E h h_tape h_far h_from h_real h_other h_kept h_set h_w h_book h_noteSort h_whose h_what h_noteIs h_fitting h_dawn h_likes h_walked h_came v_thrown v_trouble v_where v_read v_taped v_size v_at v_sort v_place v_sign v_number v_fault v_wrongAt v_word v_marks v_notes) := by
  intro sz
  refine ct_body (by decide) (Nat.le_of_ble_eq_true rfl) ?_
  intro p e s m args below meth c A ls hAe C hr hin hP hD hS hl
  have C : CX p s m args meth c cX12_refusesBooks RX12 2 E A := C
  have hl : lv_has ls 2 [(0, .ref h), (1, .int p0)] := hl
  have hx := C.1
  have hb := C.2.1
  rw [hAe]
  clear hAe
  obtain ⟨Q, hQ⟩ : ∃ Q, Q = MQ below (Qi E A (z) (wX12_refusesBooks0 E h h_tape h_far h_from h_real h_other h_kept h_set h_w h_book h_noteSort h_whose h_what h_noteIs h_fitting h_dawn h_likes h_walked h_came v_thrown v_trouble v_where v_read v_taped v_size v_at v_sort v_place v_sign v_number v_fault v_wrongAt v_word v_marks v_notes)) args s 0 0 A := ⟨_, rfl⟩
  rw [← hQ]
  unfold fX12_refusesBooks0 at hf
  refine lv_aload_n (pc := 0) hx hb dX12_refusesBooks_0 rfl (lv_at hl 0 rfl) ?_
  refine r_get (pc := 1) C hP 0 rfl fl_X12_358 rfl dX12_refusesBooks_1 ?_
  refine lv_ifnonnullN (pc := 4) hx hb dX12_refusesBooks_4 ?_
  refine lv_iconst (pc := 7) (v := 1) hx hb dX12_refusesBooks_7 (by decide) ?_
  refine lv_goto (pc := 8) (tgt := 25) hx hb dX12_refusesBooks_8 (by decide) ?_
  cases hf
  rw [hQ]
  exact r_iret C hr hP hD hS rfl dX12_refusesBooks_25
def wX12_fits (E : EN) (h h_inn h_tape h_far h_from h_real h_other h_kept h_set h_book h_noteSort h_whose h_what h_noteIs h_fitting h_dawn h_likes h_walked h_came h_inn_creak h_inn_doorA h_inn_doorB h_inn_how h_inn_lies h_inn_isCold h_inn_falls h_inn_isFull h_inn_isTold h_inn_act h_inn_what h_inn_then h_inn_met h_inn_bed h_inn_dream h_inn_listens h_inn_name h_inn_nameSort h_inn_nameNumber : Nat) (v_thrown : Int32) (v_trouble : Int32) (v_where : Int32) (v_read : Option Nat) (v_taped : Int32) (v_size : Int32) (v_at : Int32) (v_sort : Int32) (v_place : Int32) (v_sign : Int32) (v_number : Int32) (v_fault : Int32) (v_wrongAt : Int32) (v_word : Int64) (v_marks : Int32) (v_notes : Int32) (v_inn_minutes : Int32) (v_inn_rooms : Int32) (v_inn_doors : Int32) (v_inn_things : Int32) (v_inn_dreams : Int32) (v_inn_sleepers : Int32) (v_inn_listeners : Int32) (v_inn_names : Int32) (v_other : Nat → Int32) (v_inn_how : Nat → Int32) (v_inn_lies : Nat → Int32) (v_inn_isFull : Nat → Int32) (v_inn_bed : Nat → Int32) (v_inn_isTold : Nat → Int32) (v_inn_act : Nat → Int32) (v_inn_then : Nat → Int32) (v_inn_what : Nat → Int32) (v_inn_doorA : Nat → Int32) (v_inn_doorB : Nat → Int32) (v_from : Nat → Int32) (v_inn_falls : Nat → Int32) (v_inn_creak : Nat → Int32) (v_inn_listens : Nat → Int32) (v_far : Nat → Int32) (v_inn_isCold : Nat → Int32) (v_inn_met : Nat → Int32) (v_fitting : Nat → Int32) (v_book : Nat → Int32) (v_noteSort : Nat → Int32) (v_whose : Nat → Int32) (v_what : Nat → Int32) (v_noteIs : Nat → Int32) : va_W := [(h, .inr (11, [.int v_thrown, .int v_trouble, .int v_where, .ref h_inn, va_rf v_read, .ref h_tape, .int v_taped, .int v_size, .int v_at, .int v_sort, .int v_place, .int v_sign, .int v_number, .int v_fault, .int v_wrongAt, .long v_word, .ref h_far, .ref h_from, .ref h_real, .ref h_other, .ref h_kept, .ref h_set, .ref h_real, .int v_marks, .int v_notes, .ref h_book, .ref h_noteSort, .ref h_whose, .ref h_what, .ref h_noteIs, .ref h_fitting, .ref h_dawn, .ref h_likes, .ref h_walked, .ref h_came])), (h_inn, .inr (10, [.int v_inn_minutes, .int v_inn_rooms, .int v_inn_doors, .int v_inn_things, .int v_inn_dreams, .int v_inn_sleepers, .int v_inn_listeners, .int v_inn_names, .ref h_inn_creak, .ref h_inn_doorA, .ref h_inn_doorB, .ref h_inn_how, .ref h_inn_lies, .ref h_inn_isCold, .ref h_inn_falls, .ref h_inn_isFull, .ref h_inn_isTold, .ref h_inn_act, .ref h_inn_what, .ref h_inn_then, .ref h_inn_met, .ref h_inn_bed, .ref h_inn_dream, .ref h_inn_listens, .ref h_inn_name, .ref h_inn_nameSort, .ref h_inn_nameNumber])), (h_other, aI E 51 v_other), (h_inn_how, aI E 10 v_inn_how), (h_inn_lies, aI E 4 v_inn_lies), (h_inn_isFull, aZ E 4 v_inn_isFull), (h_inn_bed, aI E 3 v_inn_bed), (h_inn_isTold, aZ E 16 v_inn_isTold), (h_inn_act, aI E 16 v_inn_act), (h_inn_then, aI E 16 v_inn_then), (h_inn_what, aI E 16 v_inn_what), (h_inn_doorA, aI E 10 v_inn_doorA), (h_inn_doorB, aI E 10 v_inn_doorB), (h_from, aI E 8 v_from), (h_inn_falls, aZ E 10 v_inn_falls), (h_inn_creak, aI E 8 v_inn_creak), (h_inn_listens, aI E 3 v_inn_listens), (h_far, aI E 64 v_far), (h_inn_isCold, aZ E 8 v_inn_isCold), (h_inn_met, aI E 16 v_inn_met), (h_fitting, aI E 64 v_fitting), (h_book, aI E 20 v_book), (h_noteSort, aI E 20 v_noteSort), (h_whose, aI E 20 v_whose), (h_what, aI E 20 v_what), (h_noteIs, aZ E 20 v_noteIs)]
def fX12_fits (N : Nat) (p0 : Int32) (v_notes : Int32) (v_inn_minutes : Int32) (v_inn_rooms : Int32) (v_inn_doors : Int32) (v_inn_things : Int32) (v_inn_dreams : Int32) (v_inn_sleepers : Int32) (v_inn_listeners : Int32) (v_other : Nat → Int32) (v_inn_how : Nat → Int32) (v_inn_lies : Nat → Int32) (v_inn_isFull : Nat → Int32) (v_inn_bed : Nat → Int32) (v_inn_isTold : Nat → Int32) (v_inn_act : Nat → Int32) (v_inn_then : Nat → Int32) (v_inn_what : Nat → Int32) (v_inn_doorA : Nat → Int32) (v_inn_doorB : Nat → Int32) (v_from : Nat → Int32) (v_inn_falls : Nat → Int32) (v_inn_creak : Nat → Int32) (v_inn_listens : Nat → Int32) (v_far : Nat → Int32) (v_inn_isCold : Nat → Int32) (v_inn_met : Nat → Int32) (v_fitting : Nat → Int32) (v_book : Nat → Int32) (v_noteSort : Nat → Int32) (v_whose : Nat → Int32) (v_what : Nat → Int32) (v_noteIs : Nat → Int32) : Option (Int32 × Int32 × Int32 × Int32 × (Nat → Int32) × (Nat → Int32) × (Nat → Int32)) := (fX12_refusesBooks N p0).bind (un1 fun (r_7 : Int32) => if r_7 ≤ 0 then ((fX12_fitsBy N p0 v_notes v_inn_minutes v_inn_rooms v_inn_doors v_inn_things v_inn_dreams v_inn_sleepers v_inn_listeners v_other v_inn_how v_inn_lies v_inn_isFull v_inn_bed v_inn_isTold v_inn_act v_inn_then v_inn_what v_inn_doorA v_inn_doorB v_from v_inn_falls v_inn_creak v_inn_listens v_far v_inn_isCold v_inn_met v_fitting v_book v_noteSort v_whose v_what v_noteIs).bind (un4 fun (r_26 : Int32) (v_other_26 : Nat → Int32) (v_from_26 : Nat → Int32) (v_fitting_26 : Nat → Int32) => (fX12_good N r_26).bind (un3 fun (r_29 : Int32) (v_trouble_29 : Int32) (v_where_29 : Int32) => some (r_29, 0, v_trouble_29, v_where_29, v_other_26, v_from_26, v_fitting_26)))) else ((fX12_refused N r_7).bind (un3 fun (r_17 : Int32) (v_trouble_17 : Int32) (v_where_17 : Int32) => some (r_17, 0, v_trouble_17, v_where_17, v_other, v_from, v_fitting))))
set_option maxHeartbeats 4000000 in
set_option maxRecDepth 100000 in
theorem ctX12_fits (l : Launch) (E : EN) (h h_inn h_tape h_far h_from h_real h_other h_kept h_set h_book h_noteSort h_whose h_what h_noteIs h_fitting h_dawn h_likes h_walked h_came h_inn_creak h_inn_doorA h_inn_doorB h_inn_how h_inn_lies h_inn_isCold h_inn_falls h_inn_isFull h_inn_isTold h_inn_act h_inn_what h_inn_then h_inn_met h_inn_bed h_inn_dream h_inn_listens h_inn_name h_inn_nameSort h_inn_nameNumber : Nat) (v_thrown : Int32) (v_trouble : Int32) (v_where : Int32) (v_read : Option Nat) (v_taped : Int32) (v_size : Int32) (v_at : Int32) (v_sort : Int32) (v_place : Int32) (v_sign : Int32) (v_number : Int32) (v_fault : Int32) (v_wrongAt : Int32) (v_word : Int64) (v_marks : Int32) (v_notes : Int32) (v_inn_minutes : Int32) (v_inn_rooms : Int32) (v_inn_doors : Int32) (v_inn_things : Int32) (v_inn_dreams : Int32) (v_inn_sleepers : Int32) (v_inn_listeners : Int32) (v_inn_names : Int32) (v_other : Nat → Int32) (v_inn_how : Nat → Int32) (v_inn_lies : Nat → Int32) (v_inn_isFull : Nat → Int32) (v_inn_bed : Nat → Int32) (v_inn_isTold : Nat → Int32) (v_inn_act : Nat → Int32) (v_inn_then : Nat → Int32) (v_inn_what : Nat → Int32) (v_inn_doorA : Nat → Int32) (v_inn_doorB : Nat → Int32) (v_from : Nat → Int32) (v_inn_falls : Nat → Int32) (v_inn_creak : Nat → Int32) (v_inn_listens : Nat → Int32) (v_far : Nat → Int32) (v_inn_isCold : Nat → Int32) (v_inn_met : Nat → Int32) (v_fitting : Nat → Int32) (v_book : Nat → Int32) (v_noteSort : Nat → Int32) (v_whose : Nat → Int32) (v_what : Nat → Int32) (v_noteIs : Nat → Int32) (N : Nat) (p0 : Int32) (z : Int32 × Int32 × Int32 × Int32 × (Nat → Int32) × (Nat → Int32) × (Nat → Int32)) (hf : fX12_fits N p0 v_notes v_inn_minutes v_inn_rooms v_inn_doors v_inn_things v_inn_dreams v_inn_sleepers v_inn_listeners v_other v_inn_how v_inn_lies v_inn_isFull v_inn_bed v_inn_isTold v_inn_act v_inn_then v_inn_what v_inn_doorA v_inn_doorB v_from v_inn_falls v_inn_creak v_inn_listens v_far v_inn_isCold v_inn_met v_fitting v_book v_noteSort v_whose v_what v_noteIs = some z) : CTi l E yX12_fits cX12_fits 3 .int 8 185 [.ref h, .int p0] (wX12_fits E h h_inn h_tape h_far h_from h_real h_other h_kept h_set h_book h_noteSort h_whose h_what h_noteIs h_fitting h_dawn h_likes h_walked h_came h_inn_creak h_inn_doorA h_inn_doorB h_inn_how h_inn_lies h_inn_isCold h_inn_falls h_inn_isFull h_inn_isTold h_inn_act h_inn_what h_inn_then h_inn_met h_inn_bed h_inn_dream h_inn_listens h_inn_name h_inn_nameSort h_inn_nameNumber v_thrown v_trouble v_where v_read v_taped v_size v_at v_sort v_place v_sign v_number v_fault v_wrongAt v_word v_marks v_notes v_inn_minutes v_inn_rooms v_inn_doors v_inn_things v_inn_dreams v_inn_sleepers v_inn_listeners v_inn_names v_other v_inn_how v_inn_lies v_inn_isFull v_inn_bed v_inn_isTold v_inn_act v_inn_then v_inn_what v_inn_doorA v_inn_doorB v_from v_inn_falls v_inn_creak v_inn_listens v_far v_inn_isCold v_inn_met v_fitting v_book v_noteSort v_whose v_what v_noteIs) (z.1) (wX12_fits E h h_inn h_tape h_far h_from h_real h_other h_kept h_set h_book h_noteSort h_whose h_what h_noteIs h_fitting h_dawn h_likes h_walked h_came h_inn_creak h_inn_doorA h_inn_doorB h_inn_how h_inn_lies h_inn_isCold h_inn_falls h_inn_isFull h_inn_isTold h_inn_act h_inn_what h_inn_then h_inn_met h_inn_bed h_inn_dream h_inn_listens h_inn_name h_inn_nameSort h_inn_nameNumber z.2.1 z.2.2.1 z.2.2.2.1 v_read v_taped v_size v_at v_sort v_place v_sign v_number v_fault v_wrongAt v_word v_marks v_notes v_inn_minutes v_inn_rooms v_inn_doors v_inn_things v_inn_dreams v_inn_sleepers v_inn_listeners v_inn_names z.2.2.2.2.1 v_inn_how v_inn_lies v_inn_isFull v_inn_bed v_inn_isTold v_inn_act v_inn_then v_inn_what v_inn_doorA v_inn_doorB z.2.2.2.2.2.1 v_inn_falls v_inn_creak v_inn_listens v_far v_inn_isCold v_inn_met z.2.2.2.2.2.2 v_book v_noteSort v_whose v_what v_noteIs) := by
  intro sz
  refine ct_body (by decide) (Nat.le_of_ble_eq_true rfl) ?_
  intro p e s m args below meth c A ls hAe C hr hin hP hD hS hl
  have C : CX p s m args meth c cX12_fits RX12 3 E A := C
  have hl : lv_has ls 3 [(0, .ref h), (1, .int p0)] := hl
  have hx := C.1
  have hb := C.2.1
  rw [hAe]
  clear hAe
  obtain ⟨Q, hQ⟩ : ∃ Q, Q = MQ below (Qi E A (z.1) (wX12_fits E h h_inn h_tape h_far h_from h_real h_other h_kept h_set h_book h_noteSort h_whose h_what h_noteIs h_fitting h_dawn h_likes h_walked h_came h_inn_creak h_inn_doorA h_inn_doorB h_inn_how h_inn_lies h_inn_isCold h_inn_falls h_inn_isFull h_inn_isTold h_inn_act h_inn_what h_inn_then h_inn_met h_inn_bed h_inn_dream h_inn_listens h_inn_name h_inn_nameSort h_inn_nameNumber z.2.1 z.2.2.1 z.2.2.2.1 v_read v_taped v_size v_at v_sort v_place v_sign v_number v_fault v_wrongAt v_word v_marks v_notes v_inn_minutes v_inn_rooms v_inn_doors v_inn_things v_inn_dreams v_inn_sleepers v_inn_listeners v_inn_names z.2.2.2.2.1 v_inn_how v_inn_lies v_inn_isFull v_inn_bed v_inn_isTold v_inn_act v_inn_then v_inn_what v_inn_doorA v_inn_doorB z.2.2.2.2.2.1 v_inn_falls v_inn_creak v_inn_listens v_far v_inn_isCold v_inn_met z.2.2.2.2.2.2 v_book v_noteSort v_whose v_what v_noteIs)) args s 0 0 A := ⟨_, rfl⟩
  rw [← hQ]
  unfold fX12_fits at hf
  refine lv_aload_n (pc := 0) hx hb dX12_fits_0 rfl (lv_at hl 0 rfl) ?_
  refine lv_iconst (pc := 1) (v := 0) hx hb dX12_fits_1 (by decide) ?_
  refine r_put (pc := 2) (ws' := (wX12_fits E h h_inn h_tape h_far h_from h_real h_other h_kept h_set h_book h_noteSort h_whose h_what h_noteIs h_fitting h_dawn h_likes h_walked h_came h_inn_creak h_inn_doorA h_inn_doorB h_inn_how h_inn_lies h_inn_isCold h_inn_falls h_inn_isFull h_inn_isTold h_inn_act h_inn_what h_inn_then h_inn_met h_inn_bed h_inn_dream h_inn_listens h_inn_name h_inn_nameSort h_inn_nameNumber 0 v_trouble v_where v_read v_taped v_size v_at v_sort v_place v_sign v_number v_fault v_wrongAt v_word v_marks v_notes v_inn_minutes v_inn_rooms v_inn_doors v_inn_things v_inn_dreams v_inn_sleepers v_inn_listeners v_inn_names v_other v_inn_how v_inn_lies v_inn_isFull v_inn_bed v_inn_isTold v_inn_act v_inn_then v_inn_what v_inn_doorA v_inn_doorB v_from v_inn_falls v_inn_creak v_inn_listens v_far v_inn_isCold v_inn_met v_fitting v_book v_noteSort v_whose v_what v_noteIs)) C hP hD hS 0 rfl fl_X12_71 rfl rfl (Nat.le_of_ble_eq_true rfl) rfl dX12_fits_2 ?_
  clear hP hD hS; intro H locs hP hD hS
  refine lv_aload_n (pc := 5) hx hb dX12_fits_5 rfl (lv_at hl 0 rfl) ?_
  refine lv_iload_n (pc := 6) hx hb dX12_fits_6 rfl (lv_at hl 1 rfl) ?_
  obtain ⟨r_7, hc_7, hf⟩ := bd1 hf
  refine r_dalVi (pc := 7) (ws' := (wX12_fits E h h_inn h_tape h_far h_from h_real h_other h_kept h_set h_book h_noteSort h_whose h_what h_noteIs h_fitting h_dawn h_likes h_walked h_came h_inn_creak h_inn_doorA h_inn_doorB h_inn_how h_inn_lies h_inn_isCold h_inn_falls h_inn_isFull h_inn_isTold h_inn_act h_inn_what h_inn_then h_inn_met h_inn_bed h_inn_dream h_inn_listens h_inn_name h_inn_nameSort h_inn_nameNumber 0 v_trouble v_where v_read v_taped v_size v_at v_sort v_place v_sign v_number v_fault v_wrongAt v_word v_marks v_notes v_inn_minutes v_inn_rooms v_inn_doors v_inn_things v_inn_dreams v_inn_sleepers v_inn_listeners v_inn_names v_other v_inn_how v_inn_lies v_inn_isFull v_inn_bed v_inn_isTold v_inn_act v_inn_then v_inn_what v_inn_doorA v_inn_doorB v_from v_inn_falls v_inn_creak v_inn_listens v_far v_inn_isCold v_inn_met v_fitting v_book v_noteSort v_whose v_what v_noteIs)) (As := [.int p0]) (rest := []) C (ctX12_refusesBooks l E h h_inn h_tape h_far h_from h_real h_other h_kept h_set h_real h_book h_noteSort h_whose h_what h_noteIs h_fitting h_dawn h_likes h_walked h_came 0 v_trouble v_where v_read v_taped v_size v_at v_sort v_place v_sign v_number v_fault v_wrongAt v_word v_marks v_notes N p0 r_7 hc_7) ml_X12_461 ⟨Nat.le_of_ble_eq_true rfl, Nat.le_of_ble_eq_true rfl⟩ hP hD hS 0 rfl rfl rfl [0] [26, 1, 2, 3, 4, 5, 6, 7, 8, 9, 10, 11, 12, 13, 14, 15, 16, 17, 18, 19, 20, 21, 22, 23, 24, 25] 26 rfl rfl rfl rfl rfl rfl rfl hl.1 rfl (Nat.le_of_ble_eq_true rfl) ⟨Nat.zero_le _, Nat.zero_le _⟩ dX12_fits_7 ?_
  clear hP hD hS; intro H locs hP hD hS
  refine lv_istore_n (pc := 10) (lv' := [(2, .int r_7), (0, .ref h), (1, .int p0)]) hx hb dX12_fits_10 rfl hl (by decide) rfl (fun ls hl => ?_)
  refine lv_iload_n (pc := 11) hx hb dX12_fits_11 rfl (lv_at hl 0 rfl) ?_
  refine lv_if_le (pc := 12) (tgt := 23) hx hb dX12_fits_12 (by decide) (fun c_12 => ?_) (fun c_12 => ?_)
  · replace hf := it_t c_12 hf
    refine lv_aload_n (pc := 23) hx hb dX12_fits_23 rfl (lv_at hl 1 rfl) ?_
    refine lv_aload_n (pc := 24) hx hb dX12_fits_24 rfl (lv_at hl 1 rfl) ?_
    refine lv_iload_n (pc := 25) hx hb dX12_fits_25 rfl (lv_at hl 2 rfl) ?_
    obtain ⟨r_26, v_other_26, v_from_26, v_fitting_26, hc_26, hf⟩ := bd4 hf
    refine r_dalVi (pc := 26) (ws' := (wX12_fits E h h_inn h_tape h_far h_from h_real h_other h_kept h_set h_book h_noteSort h_whose h_what h_noteIs h_fitting h_dawn h_likes h_walked h_came h_inn_creak h_inn_doorA h_inn_doorB h_inn_how h_inn_lies h_inn_isCold h_inn_falls h_inn_isFull h_inn_isTold h_inn_act h_inn_what h_inn_then h_inn_met h_inn_bed h_inn_dream h_inn_listens h_inn_name h_inn_nameSort h_inn_nameNumber 0 v_trouble v_where v_read v_taped v_size v_at v_sort v_place v_sign v_number v_fault v_wrongAt v_word v_marks v_notes v_inn_minutes v_inn_rooms v_inn_doors v_inn_things v_inn_dreams v_inn_sleepers v_inn_listeners v_inn_names v_other_26 v_inn_how v_inn_lies v_inn_isFull v_inn_bed v_inn_isTold v_inn_act v_inn_then v_inn_what v_inn_doorA v_inn_doorB v_from_26 v_inn_falls v_inn_creak v_inn_listens v_far v_inn_isCold v_inn_met v_fitting_26 v_book v_noteSort v_whose v_what v_noteIs)) (As := [.int p0]) (rest := [.ref h]) C (ctX12_fitsBy l E h h_inn h_tape h_far h_from h_real h_other h_kept h_set h_book h_noteSort h_whose h_what h_noteIs h_fitting h_dawn h_likes h_walked h_came h_inn_creak h_inn_doorA h_inn_doorB h_inn_how h_inn_lies h_inn_isCold h_inn_falls h_inn_isFull h_inn_isTold h_inn_act h_inn_what h_inn_then h_inn_met h_inn_bed h_inn_dream h_inn_listens h_inn_name h_inn_nameSort h_inn_nameNumber 0 v_trouble v_where v_read v_taped v_size v_at v_sort v_place v_sign v_number v_fault v_wrongAt v_word v_marks v_notes v_inn_minutes v_inn_rooms v_inn_doors v_inn_things v_inn_dreams v_inn_sleepers v_inn_listeners v_inn_names v_other v_inn_how v_inn_lies v_inn_isFull v_inn_bed v_inn_isTold v_inn_act v_inn_then v_inn_what v_inn_doorA v_inn_doorB v_from v_inn_falls v_inn_creak v_inn_listens v_far v_inn_isCold v_inn_met v_fitting v_book v_noteSort v_whose v_what v_noteIs N p0 (r_26, v_other_26, v_from_26, v_fitting_26) hc_26) ml_X12_464 ⟨Nat.le_of_ble_eq_true rfl, Nat.le_of_ble_eq_true rfl⟩ hP hD hS 0 rfl rfl rfl [0, 1, 2, 3, 4, 5, 6, 7, 8, 9, 10, 11, 12, 13, 14, 15, 16, 17, 18, 19, 20, 21, 22, 23, 24, 25] [26, 27, 28, 29, 30, 31, 32, 33, 34, 35, 36, 37, 38, 39, 40, 41, 42, 43, 44, 45, 46, 47, 48, 49, 50, 51] 26 rfl rfl rfl rfl rfl rfl rfl hl.1 rfl (Nat.le_of_ble_eq_true rfl) ⟨Nat.zero_le _, Nat.zero_le _⟩ dX12_fits_26 ?_
    clear hP hD hS; intro H locs hP hD hS
    obtain ⟨r_29, v_trouble_29, v_where_29, hc_29, hf⟩ := bd3 hf
    refine r_dalVi (pc := 29) (ws' := (wX12_fits E h h_inn h_tape h_far h_from h_real h_other h_kept h_set h_book h_noteSort h_whose h_what h_noteIs h_fitting h_dawn h_likes h_walked h_came h_inn_creak h_inn_doorA h_inn_doorB h_inn_how h_inn_lies h_inn_isCold h_inn_falls h_inn_isFull h_inn_isTold h_inn_act h_inn_what h_inn_then h_inn_met h_inn_bed h_inn_dream h_inn_listens h_inn_name h_inn_nameSort h_inn_nameNumber 0 v_trouble_29 v_where_29 v_read v_taped v_size v_at v_sort v_place v_sign v_number v_fault v_wrongAt v_word v_marks v_notes v_inn_minutes v_inn_rooms v_inn_doors v_inn_things v_inn_dreams v_inn_sleepers v_inn_listeners v_inn_names v_other_26 v_inn_how v_inn_lies v_inn_isFull v_inn_bed v_inn_isTold v_inn_act v_inn_then v_inn_what v_inn_doorA v_inn_doorB v_from_26 v_inn_falls v_inn_creak v_inn_listens v_far v_inn_isCold v_inn_met v_fitting_26 v_book v_noteSort v_whose v_what v_noteIs)) (As := [.int r_26]) (rest := []) C (ctX12_good l E h h_tape h_far h_from h_real h_other h_kept h_set h_real h_book h_noteSort h_whose h_what h_noteIs h_fitting h_dawn h_likes h_walked h_came 0 v_trouble v_where (some h_inn) v_read v_taped v_size v_at v_sort v_place v_sign v_number v_fault v_wrongAt v_word v_marks v_notes N r_26 (r_29, v_trouble_29, v_where_29) hc_29) ml_X12_81 ⟨Nat.le_of_ble_eq_true rfl, Nat.le_of_ble_eq_true rfl⟩ hP hD hS 0 rfl rfl rfl [0] [26, 1, 2, 3, 4, 5, 6, 7, 8, 9, 10, 11, 12, 13, 14, 15, 16, 17, 18, 19, 20, 21, 22, 23, 24, 25] 26 rfl rfl rfl rfl rfl rfl rfl hl.1 rfl (Nat.le_of_ble_eq_true rfl) ⟨Nat.zero_le _, Nat.zero_le _⟩ dX12_fits_29 ?_
    clear hP hD hS; intro H locs hP hD hS
    cases hf
    rw [hQ]
    exact r_iret C hr hP hD hS rfl dX12_fits_32
  · replace hf := it_f c_12 hf
    refine lv_aload_n (pc := 15) hx hb dX12_fits_15 rfl (lv_at hl 1 rfl) ?_
    refine lv_iload_n (pc := 16) hx hb dX12_fits_16 rfl (lv_at hl 0 rfl) ?_
    obtain ⟨r_17, v_trouble_17, v_where_17, hc_17, hf⟩ := bd3 hf
    refine r_dalVi (pc := 17) (ws' := (wX12_fits E h h_inn h_tape h_far h_from h_real h_other h_kept h_set h_book h_noteSort h_whose h_what h_noteIs h_fitting h_dawn h_likes h_walked h_came h_inn_creak h_inn_doorA h_inn_doorB h_inn_how h_inn_lies h_inn_isCold h_inn_falls h_inn_isFull h_inn_isTold h_inn_act h_inn_what h_inn_then h_inn_met h_inn_bed h_inn_dream h_inn_listens h_inn_name h_inn_nameSort h_inn_nameNumber 0 v_trouble_17 v_where_17 v_read v_taped v_size v_at v_sort v_place v_sign v_number v_fault v_wrongAt v_word v_marks v_notes v_inn_minutes v_inn_rooms v_inn_doors v_inn_things v_inn_dreams v_inn_sleepers v_inn_listeners v_inn_names v_other v_inn_how v_inn_lies v_inn_isFull v_inn_bed v_inn_isTold v_inn_act v_inn_then v_inn_what v_inn_doorA v_inn_doorB v_from v_inn_falls v_inn_creak v_inn_listens v_far v_inn_isCold v_inn_met v_fitting v_book v_noteSort v_whose v_what v_noteIs)) (As := [.int r_7]) (rest := []) C (ctX12_refused l E h h_tape h_far h_from h_real h_other h_kept h_set h_real h_book h_noteSort h_whose h_what h_noteIs h_fitting h_dawn h_likes h_walked h_came 0 v_trouble v_where (some h_inn) v_read v_taped v_size v_at v_sort v_place v_sign v_number v_fault v_wrongAt v_word v_marks v_notes N r_7 (r_17, v_trouble_17, v_where_17) hc_17) ml_X12_77 ⟨Nat.le_of_ble_eq_true rfl, Nat.le_of_ble_eq_true rfl⟩ hP hD hS 0 rfl rfl rfl [0] [26, 1, 2, 3, 4, 5, 6, 7, 8, 9, 10, 11, 12, 13, 14, 15, 16, 17, 18, 19, 20, 21, 22, 23, 24, 25] 26 rfl rfl rfl rfl rfl rfl rfl hl.1 rfl (Nat.le_of_ble_eq_true rfl) ⟨Nat.zero_le _, Nat.zero_le _⟩ dX12_fits_17 ?_
    clear hP hD hS; intro H locs hP hD hS
    refine lv_goto (pc := 20) (tgt := 32) hx hb dX12_fits_20 (by decide) ?_
    cases hf
    rw [hQ]
    exact r_iret C hr hP hD hS rfl dX12_fits_32
def wX12_fits0 (E : EN) (h h_tape h_far h_from h_real h_other h_kept h_set h_book h_noteSort h_whose h_what h_noteIs h_fitting h_dawn h_likes h_walked h_came : Nat) (v_thrown : Int32) (v_trouble : Int32) (v_where : Int32) (v_read : Option Nat) (v_taped : Int32) (v_size : Int32) (v_at : Int32) (v_sort : Int32) (v_place : Int32) (v_sign : Int32) (v_number : Int32) (v_fault : Int32) (v_wrongAt : Int32) (v_word : Int64) (v_marks : Int32) (v_notes : Int32) : va_W := [(h, .inr (11, [.int v_thrown, .int v_trouble, .int v_where, .null, va_rf v_read, .ref h_tape, .int v_taped, .int v_size, .int v_at, .int v_sort, .int v_place, .int v_sign, .int v_number, .int v_fault, .int v_wrongAt, .long v_word, .ref h_far, .ref h_from, .ref h_real, .ref h_other, .ref h_kept, .ref h_set, .ref h_real, .int v_marks, .int v_notes, .ref h_book, .ref h_noteSort, .ref h_whose, .ref h_what, .ref h_noteIs, .ref h_fitting, .ref h_dawn, .ref h_likes, .ref h_walked, .ref h_came]))]
def fX12_fits0 (N : Nat) : Option (Int32 × Int32 × Int32 × Int32) := (fX12_refusesBooks0 N).bind (un1 fun (r_7 : Int32) => if r_7 ≤ 0 then (none) else ((fX12_refused N r_7).bind (un3 fun (r_17 : Int32) (v_trouble_17 : Int32) (v_where_17 : Int32) => some (r_17, 0, v_trouble_17, v_where_17))))
set_option maxHeartbeats 4000000 in
set_option maxRecDepth 100000 in
theorem ctX12_fits0 (l : Launch) (E : EN) (h h_tape h_far h_from h_real h_other h_kept h_set h_book h_noteSort h_whose h_what h_noteIs h_fitting h_dawn h_likes h_walked h_came : Nat) (v_thrown : Int32) (v_trouble : Int32) (v_where : Int32) (v_read : Option Nat) (v_taped : Int32) (v_size : Int32) (v_at : Int32) (v_sort : Int32) (v_place : Int32) (v_sign : Int32) (v_number : Int32) (v_fault : Int32) (v_wrongAt : Int32) (v_word : Int64) (v_marks : Int32) (v_notes : Int32) (N : Nat) (p0 : Int32) (z : Int32 × Int32 × Int32 × Int32) (hf : fX12_fits0 N  = some z) : CTi l E yX12_fits cX12_fits 3 .int 1 21 [.ref h, .int p0] (wX12_fits0 E h h_tape h_far h_from h_real h_other h_kept h_set h_book h_noteSort h_whose h_what h_noteIs h_fitting h_dawn h_likes h_walked h_came v_thrown v_trouble v_where v_read v_taped v_size v_at v_sort v_place v_sign v_number v_fault v_wrongAt v_word v_marks v_notes) (z.1) (wX12_fits0 E h h_tape h_far h_from h_real h_other h_kept h_set h_book h_noteSort h_whose h_what h_noteIs h_fitting h_dawn h_likes h_walked h_came z.2.1 z.2.2.1 z.2.2.2 v_read v_taped v_size v_at v_sort v_place v_sign v_number v_fault v_wrongAt v_word v_marks v_notes) := by
  intro sz
  refine ct_body (by decide) (Nat.le_of_ble_eq_true rfl) ?_
  intro p e s m args below meth c A ls hAe C hr hin hP hD hS hl
  have C : CX p s m args meth c cX12_fits RX12 3 E A := C
  have hl : lv_has ls 3 [(0, .ref h), (1, .int p0)] := hl
  have hx := C.1
  have hb := C.2.1
  rw [hAe]
  clear hAe
  obtain ⟨Q, hQ⟩ : ∃ Q, Q = MQ below (Qi E A (z.1) (wX12_fits0 E h h_tape h_far h_from h_real h_other h_kept h_set h_book h_noteSort h_whose h_what h_noteIs h_fitting h_dawn h_likes h_walked h_came z.2.1 z.2.2.1 z.2.2.2 v_read v_taped v_size v_at v_sort v_place v_sign v_number v_fault v_wrongAt v_word v_marks v_notes)) args s 0 0 A := ⟨_, rfl⟩
  rw [← hQ]
  unfold fX12_fits0 at hf
  refine lv_aload_n (pc := 0) hx hb dX12_fits_0 rfl (lv_at hl 0 rfl) ?_
  refine lv_iconst (pc := 1) (v := 0) hx hb dX12_fits_1 (by decide) ?_
  refine r_put (pc := 2) (ws' := (wX12_fits0 E h h_tape h_far h_from h_real h_other h_kept h_set h_book h_noteSort h_whose h_what h_noteIs h_fitting h_dawn h_likes h_walked h_came 0 v_trouble v_where v_read v_taped v_size v_at v_sort v_place v_sign v_number v_fault v_wrongAt v_word v_marks v_notes)) C hP hD hS 0 rfl fl_X12_71 rfl rfl (Nat.le_of_ble_eq_true rfl) rfl dX12_fits_2 ?_
  clear hP hD hS; intro H locs hP hD hS
  refine lv_aload_n (pc := 5) hx hb dX12_fits_5 rfl (lv_at hl 0 rfl) ?_
  refine lv_iload_n (pc := 6) hx hb dX12_fits_6 rfl (lv_at hl 1 rfl) ?_
  obtain ⟨r_7, hc_7, hf⟩ := bd1 hf
  refine r_dalVi (pc := 7) (ws' := (wX12_fits0 E h h_tape h_far h_from h_real h_other h_kept h_set h_book h_noteSort h_whose h_what h_noteIs h_fitting h_dawn h_likes h_walked h_came 0 v_trouble v_where v_read v_taped v_size v_at v_sort v_place v_sign v_number v_fault v_wrongAt v_word v_marks v_notes)) (As := [.int p0]) (rest := []) C (ctX12_refusesBooks0 l E h h_tape h_far h_from h_real h_other h_kept h_set h_real h_book h_noteSort h_whose h_what h_noteIs h_fitting h_dawn h_likes h_walked h_came 0 v_trouble v_where v_read v_taped v_size v_at v_sort v_place v_sign v_number v_fault v_wrongAt v_word v_marks v_notes N p0 r_7 hc_7) ml_X12_461 ⟨Nat.le_of_ble_eq_true rfl, Nat.le_of_ble_eq_true rfl⟩ hP hD hS 0 rfl rfl rfl [0] [1] 1 rfl rfl rfl rfl rfl rfl rfl hl.1 rfl (Nat.le_of_ble_eq_true rfl) ⟨Nat.zero_le _, Nat.zero_le _⟩ dX12_fits_7 ?_
  clear hP hD hS; intro H locs hP hD hS
  refine lv_istore_n (pc := 10) (lv' := [(2, .int r_7), (0, .ref h), (1, .int p0)]) hx hb dX12_fits_10 rfl hl (by decide) rfl (fun ls hl => ?_)
  refine lv_iload_n (pc := 11) hx hb dX12_fits_11 rfl (lv_at hl 0 rfl) ?_
  refine lv_if_le (pc := 12) (tgt := 23) hx hb dX12_fits_12 (by decide) (fun c_12 => ?_) (fun c_12 => ?_)
  · replace hf := it_t c_12 hf
    refine lv_aload_n (pc := 23) hx hb dX12_fits_23 rfl (lv_at hl 1 rfl) ?_
    refine lv_aload_n (pc := 24) hx hb dX12_fits_24 rfl (lv_at hl 1 rfl) ?_
    refine lv_iload_n (pc := 25) hx hb dX12_fits_25 rfl (lv_at hl 2 rfl) ?_
    cases hf
  · replace hf := it_f c_12 hf
    refine lv_aload_n (pc := 15) hx hb dX12_fits_15 rfl (lv_at hl 1 rfl) ?_
    refine lv_iload_n (pc := 16) hx hb dX12_fits_16 rfl (lv_at hl 0 rfl) ?_
    obtain ⟨r_17, v_trouble_17, v_where_17, hc_17, hf⟩ := bd3 hf
    refine r_dalVi (pc := 17) (ws' := (wX12_fits0 E h h_tape h_far h_from h_real h_other h_kept h_set h_book h_noteSort h_whose h_what h_noteIs h_fitting h_dawn h_likes h_walked h_came 0 v_trouble_17 v_where_17 v_read v_taped v_size v_at v_sort v_place v_sign v_number v_fault v_wrongAt v_word v_marks v_notes)) (As := [.int r_7]) (rest := []) C (ctX12_refused l E h h_tape h_far h_from h_real h_other h_kept h_set h_real h_book h_noteSort h_whose h_what h_noteIs h_fitting h_dawn h_likes h_walked h_came 0 v_trouble v_where none v_read v_taped v_size v_at v_sort v_place v_sign v_number v_fault v_wrongAt v_word v_marks v_notes N r_7 (r_17, v_trouble_17, v_where_17) hc_17) ml_X12_77 ⟨Nat.le_of_ble_eq_true rfl, Nat.le_of_ble_eq_true rfl⟩ hP hD hS 0 rfl rfl rfl [0] [1] 1 rfl rfl rfl rfl rfl rfl rfl hl.1 rfl (Nat.le_of_ble_eq_true rfl) ⟨Nat.zero_le _, Nat.zero_le _⟩ dX12_fits_17 ?_
    clear hP hD hS; intro H locs hP hD hS
    refine lv_goto (pc := 20) (tgt := 32) hx hb dX12_fits_20 (by decide) ?_
    cases hf
    rw [hQ]
    exact r_iret C hr hP hD hS rfl dX12_fits_32
def wX12_dreamIn (E : EN) (h h_inn h_tape h_far h_from h_real h_other h_kept h_set h_w h_book h_noteSort h_whose h_what h_noteIs h_fitting h_dawn h_likes h_walked h_came h_inn_creak h_inn_doorA h_inn_doorB h_inn_how h_inn_lies h_inn_isCold h_inn_falls h_inn_isFull h_inn_isTold h_inn_act h_inn_what h_inn_then h_inn_met h_inn_bed h_inn_dream h_inn_listens h_inn_name h_inn_nameSort h_inn_nameNumber : Nat) (v_thrown : Int32) (v_trouble : Int32) (v_where : Int32) (v_read : Option Nat) (v_taped : Int32) (v_size : Int32) (v_at : Int32) (v_sort : Int32) (v_place : Int32) (v_sign : Int32) (v_number : Int32) (v_fault : Int32) (v_wrongAt : Int32) (v_word : Int64) (v_marks : Int32) (v_notes : Int32) (v_inn_minutes : Int32) (v_inn_rooms : Int32) (v_inn_doors : Int32) (v_inn_things : Int32) (v_inn_dreams : Int32) (v_inn_sleepers : Int32) (v_inn_listeners : Int32) (v_inn_names : Int32) : va_W := [(h, .inr (11, [.int v_thrown, .int v_trouble, .int v_where, .ref h_inn, va_rf v_read, .ref h_tape, .int v_taped, .int v_size, .int v_at, .int v_sort, .int v_place, .int v_sign, .int v_number, .int v_fault, .int v_wrongAt, .long v_word, .ref h_far, .ref h_from, .ref h_real, .ref h_other, .ref h_kept, .ref h_set, .ref h_w, .int v_marks, .int v_notes, .ref h_book, .ref h_noteSort, .ref h_whose, .ref h_what, .ref h_noteIs, .ref h_fitting, .ref h_dawn, .ref h_likes, .ref h_walked, .ref h_came])), (h_inn, .inr (10, [.int v_inn_minutes, .int v_inn_rooms, .int v_inn_doors, .int v_inn_things, .int v_inn_dreams, .int v_inn_sleepers, .int v_inn_listeners, .int v_inn_names, .ref h_inn_creak, .ref h_inn_doorA, .ref h_inn_doorB, .ref h_inn_how, .ref h_inn_lies, .ref h_inn_isCold, .ref h_inn_falls, .ref h_inn_isFull, .ref h_inn_isTold, .ref h_inn_act, .ref h_inn_what, .ref h_inn_then, .ref h_inn_met, .ref h_inn_bed, .ref h_inn_dream, .ref h_inn_listens, .ref h_inn_name, .ref h_inn_nameSort, .ref h_inn_nameNumber]))]
def BX12_dreamIn_13 (p1 : Int32) (v_inn_dreams : Int32) (rec13 : (Int32 × Int32) → Option Int32) : (Int32 × Int32) → Option Int32 := un2 fun (x13_3 : Int32) (x13_4 : Int32) => if x13_4 ≤ p1 then (dv v_inn_dreams (some (x13_3 - x13_3 / v_inn_dreams * v_inn_dreams))) else (dv v_inn_dreams (rec13 (x13_3 / v_inn_dreams, x13_4 + (-1))))
def fX12_dreamIn (N : Nat) (p0 : Int32) (p1 : Int32) (v_inn_dreams : Int32) (v_inn_sleepers : Int32) : Option Int32 := lp (BX12_dreamIn_13 p1 v_inn_dreams) N (p0, v_inn_sleepers - 1)
set_option maxHeartbeats 4000000 in
set_option maxRecDepth 100000 in
theorem ctX12_dreamIn (l : Launch) (E : EN) (h h_inn h_tape h_far h_from h_real h_other h_kept h_set h_w h_book h_noteSort h_whose h_what h_noteIs h_fitting h_dawn h_likes h_walked h_came h_inn_creak h_inn_doorA h_inn_doorB h_inn_how h_inn_lies h_inn_isCold h_inn_falls h_inn_isFull h_inn_isTold h_inn_act h_inn_what h_inn_then h_inn_met h_inn_bed h_inn_dream h_inn_listens h_inn_name h_inn_nameSort h_inn_nameNumber : Nat) (v_thrown : Int32) (v_trouble : Int32) (v_where : Int32) (v_read : Option Nat) (v_taped : Int32) (v_size : Int32) (v_at : Int32) (v_sort : Int32) (v_place : Int32) (v_sign : Int32) (v_number : Int32) (v_fault : Int32) (v_wrongAt : Int32) (v_word : Int64) (v_marks : Int32) (v_notes : Int32) (v_inn_minutes : Int32) (v_inn_rooms : Int32) (v_inn_doors : Int32) (v_inn_things : Int32) (v_inn_dreams : Int32) (v_inn_sleepers : Int32) (v_inn_listeners : Int32) (v_inn_names : Int32) (N : Nat) (p0 : Int32) (p1 : Int32) (z : Int32) (hf : fX12_dreamIn N p0 p1 v_inn_dreams v_inn_sleepers = some z) : CTi l E yX12_dreamIn cX12_dreamIn 5 .int 0 0 [.ref h, .int p0, .int p1] (wX12_dreamIn E h h_inn h_tape h_far h_from h_real h_other h_kept h_set h_w h_book h_noteSort h_whose h_what h_noteIs h_fitting h_dawn h_likes h_walked h_came h_inn_creak h_inn_doorA h_inn_doorB h_inn_how h_inn_lies h_inn_isCold h_inn_falls h_inn_isFull h_inn_isTold h_inn_act h_inn_what h_inn_then h_inn_met h_inn_bed h_inn_dream h_inn_listens h_inn_name h_inn_nameSort h_inn_nameNumber v_thrown v_trouble v_where v_read v_taped v_size v_at v_sort v_place v_sign v_number v_fault v_wrongAt v_word v_marks v_notes v_inn_minutes v_inn_rooms v_inn_doors v_inn_things v_inn_dreams v_inn_sleepers v_inn_listeners v_inn_names) (z) (wX12_dreamIn E h h_inn h_tape h_far h_from h_real h_other h_kept h_set h_w h_book h_noteSort h_whose h_what h_noteIs h_fitting h_dawn h_likes h_walked h_came h_inn_creak h_inn_doorA h_inn_doorB h_inn_how h_inn_lies h_inn_isCold h_inn_falls h_inn_isFull h_inn_isTold h_inn_act h_inn_what h_inn_then h_inn_met h_inn_bed h_inn_dream h_inn_listens h_inn_name h_inn_nameSort h_inn_nameNumber v_thrown v_trouble v_where v_read v_taped v_size v_at v_sort v_place v_sign v_number v_fault v_wrongAt v_word v_marks v_notes v_inn_minutes v_inn_rooms v_inn_doors v_inn_things v_inn_dreams v_inn_sleepers v_inn_listeners v_inn_names) := by
  intro sz
  refine ct_body (by decide) (Nat.le_of_ble_eq_true rfl) ?_
  intro p e s m args below meth c A ls hAe C hr hin hP hD hS hl
  have C : CX p s m args meth c cX12_dreamIn RX12 5 E A := C
  have hl : lv_has ls 5 [(0, .ref h), (1, .int p0), (2, .int p1)] := hl
  have hx := C.1
  have hb := C.2.1
  rw [hAe]
  clear hAe
  obtain ⟨Q, hQ⟩ : ∃ Q, Q = MQ below (Qi E A (z) (wX12_dreamIn E h h_inn h_tape h_far h_from h_real h_other h_kept h_set h_w h_book h_noteSort h_whose h_what h_noteIs h_fitting h_dawn h_likes h_walked h_came h_inn_creak h_inn_doorA h_inn_doorB h_inn_how h_inn_lies h_inn_isCold h_inn_falls h_inn_isFull h_inn_isTold h_inn_act h_inn_what h_inn_then h_inn_met h_inn_bed h_inn_dream h_inn_listens h_inn_name h_inn_nameSort h_inn_nameNumber v_thrown v_trouble v_where v_read v_taped v_size v_at v_sort v_place v_sign v_number v_fault v_wrongAt v_word v_marks v_notes v_inn_minutes v_inn_rooms v_inn_doors v_inn_things v_inn_dreams v_inn_sleepers v_inn_listeners v_inn_names)) args s 0 0 A := ⟨_, rfl⟩
  rw [← hQ]
  unfold fX12_dreamIn at hf
  refine lv_iload_n (pc := 0) hx hb dX12_dreamIn_0 rfl (lv_at hl 1 rfl) ?_
  refine lv_istore_n (pc := 1) (lv' := [(3, .int p0), (0, .ref h), (1, .int p0), (2, .int p1)]) hx hb dX12_dreamIn_1 rfl hl (by decide) rfl (fun ls hl => ?_)
  refine lv_aload_n (pc := 2) hx hb dX12_dreamIn_2 rfl (lv_at hl 1 rfl) ?_
  refine r_get (pc := 3) C hP 0 rfl fl_X12_358 rfl dX12_dreamIn_3 ?_
  refine r_get (pc := 6) C hP 1 rfl fl_X12_247 rfl dX12_dreamIn_6 ?_
  refine lv_iconst (pc := 9) (v := 1) hx hb dX12_dreamIn_9 (by decide) ?_
  refine lv_isub (pc := 10) hx hb dX12_dreamIn_10 ?_
  refine lv_istore (pc := 11) (lv' := [(4, .int (v_inn_sleepers - 1)), (3, .int p0), (0, .ref h), (1, .int p0), (2, .int p1)]) hx hb dX12_dreamIn_11 hl (by decide) rfl (fun ls hl => ?_)
  have key13 : ∀ (n : Nat) (x13_3 : Int32) (x13_4 : Int32) , lp (BX12_dreamIn_13 p1 v_inn_dreams) n (x13_3, x13_4) = some z → AT p l e (rmOf 0 0) s m args below meth c E A Q 0 0 5 [(0, .ref h), (2, .int p1), (3, .int x13_3), (4, .int x13_4)] (wX12_dreamIn E h h_inn h_tape h_far h_from h_real h_other h_kept h_set h_w h_book h_noteSort h_whose h_what h_noteIs h_fitting h_dawn h_likes h_walked h_came h_inn_creak h_inn_doorA h_inn_doorB h_inn_how h_inn_lies h_inn_isCold h_inn_falls h_inn_isFull h_inn_isTold h_inn_act h_inn_what h_inn_then h_inn_met h_inn_bed h_inn_dream h_inn_listens h_inn_name h_inn_nameSort h_inn_nameNumber v_thrown v_trouble v_where v_read v_taped v_size v_at v_sort v_place v_sign v_number v_fault v_wrongAt v_word v_marks v_notes v_inn_minutes v_inn_rooms v_inn_doors v_inn_things v_inn_dreams v_inn_sleepers v_inn_listeners v_inn_names) 13 [] := by
    intro n
    induction n with
    | zero => intro x13_3 x13_4 hf; exact (lp_0 hf).elim
    | succ n ih13 =>
      intro x13_3 x13_4 hf H locs ls hl hP hD hS
      replace hf := lp_s hf
      generalize lp (BX12_dreamIn_13 p1 v_inn_dreams) n = rec13 at ih13 hf
      unfold BX12_dreamIn_13 at hf
      replace hf := un2_s hf
      refine lv_iload (pc := 13) hx hb dX12_dreamIn_13 (lv_at hl 3 rfl) ?_
      refine lv_iload_n (pc := 15) hx hb dX12_dreamIn_15 rfl (lv_at hl 1 rfl) ?_
      refine lv_icmp_le (pc := 16) (tgt := 35) hx hb dX12_dreamIn_16 (by decide) (fun c_16 => ?_) (fun c_16 => ?_)
      · replace hf := it_t c_16 hf
        refine lv_iload_n (pc := 35) hx hb dX12_dreamIn_35 rfl (lv_at hl 2 rfl) ?_
        refine lv_aload_n (pc := 36) hx hb dX12_dreamIn_36 rfl (lv_at hl 0 rfl) ?_
        refine r_get (pc := 37) C hP 0 rfl fl_X12_358 rfl dX12_dreamIn_37 ?_
        refine r_get (pc := 40) C hP 1 rfl fl_X12_325 rfl dX12_dreamIn_40 ?_
        obtain ⟨hd_43, hf⟩ := dv_s hf
        refine lv_irem (pc := 43) hx hb dX12_dreamIn_43 hd_43 ?_
        cases hf
        rw [hQ]
        exact r_iret C hr hP hD hS rfl dX12_dreamIn_44
      · replace hf := it_f c_16 hf
        refine lv_iload_n (pc := 19) hx hb dX12_dreamIn_19 rfl (lv_at hl 2 rfl) ?_
        refine lv_aload_n (pc := 20) hx hb dX12_dreamIn_20 rfl (lv_at hl 0 rfl) ?_
        refine r_get (pc := 21) C hP 0 rfl fl_X12_358 rfl dX12_dreamIn_21 ?_
        refine r_get (pc := 24) C hP 1 rfl fl_X12_325 rfl dX12_dreamIn_24 ?_
        obtain ⟨hd_27, hf⟩ := dv_s hf
        refine lv_idiv (pc := 27) hx hb dX12_dreamIn_27 hd_27 ?_
        refine lv_istore_n (pc := 28) (lv' := [(3, .int (x13_3 / v_inn_dreams)), (0, .ref h), (2, .int p1), (4, .int x13_4)]) hx hb dX12_dreamIn_28 rfl hl (by decide) rfl (fun ls hl => ?_)
        refine lv_iinc (pc := 29) (v := x13_4 + (-1)) (lv' := [(4, .int (x13_4 + (-1))), (3, .int (x13_3 / v_inn_dreams)), (0, .ref h), (2, .int p1)]) hx hb dX12_dreamIn_29 hl (k := 3) rfl (congrArg (fun z => x13_4 + z) (by decide)) (by decide) rfl (fun ls hl => ?_)
        refine lv_goto (pc := 32) (tgt := 13) hx hb dX12_dreamIn_32 (by decide) ?_
        exact ih13 (x13_3 / v_inn_dreams) (x13_4 + (-1)) hf _ _ _ (lv_sub hl [2, 3, 1, 0] rfl) hP hD hS
  exact key13 _ p0 (v_inn_sleepers - 1) hf _ _ _ (lv_sub hl [2, 4, 1, 0] rfl) hP hD hS
def wX12_fit (E : EN) (h h_inn h_tape h_far h_from h_real h_other h_kept h_set h_book h_noteSort h_whose h_what h_noteIs h_fitting h_dawn h_likes h_walked h_came h_inn_creak h_inn_doorA h_inn_doorB h_inn_how h_inn_lies h_inn_isCold h_inn_falls h_inn_isFull h_inn_isTold h_inn_act h_inn_what h_inn_then h_inn_met h_inn_bed h_inn_dream h_inn_listens h_inn_name h_inn_nameSort h_inn_nameNumber : Nat) (v_thrown : Int32) (v_trouble : Int32) (v_where : Int32) (v_read : Option Nat) (v_taped : Int32) (v_size : Int32) (v_at : Int32) (v_sort : Int32) (v_place : Int32) (v_sign : Int32) (v_number : Int32) (v_fault : Int32) (v_wrongAt : Int32) (v_word : Int64) (v_marks : Int32) (v_notes : Int32) (v_inn_minutes : Int32) (v_inn_rooms : Int32) (v_inn_doors : Int32) (v_inn_things : Int32) (v_inn_dreams : Int32) (v_inn_sleepers : Int32) (v_inn_listeners : Int32) (v_inn_names : Int32) (v_other : Nat → Int32) (v_inn_how : Nat → Int32) (v_inn_lies : Nat → Int32) (v_inn_isFull : Nat → Int32) (v_inn_bed : Nat → Int32) (v_inn_isTold : Nat → Int32) (v_inn_act : Nat → Int32) (v_inn_then : Nat → Int32) (v_inn_what : Nat → Int32) (v_inn_doorA : Nat → Int32) (v_inn_doorB : Nat → Int32) (v_from : Nat → Int32) (v_inn_falls : Nat → Int32) (v_inn_creak : Nat → Int32) (v_inn_listens : Nat → Int32) (v_far : Nat → Int32) (v_inn_isCold : Nat → Int32) (v_inn_met : Nat → Int32) (v_fitting : Nat → Int32) (v_book : Nat → Int32) (v_noteSort : Nat → Int32) (v_whose : Nat → Int32) (v_what : Nat → Int32) (v_noteIs : Nat → Int32) : va_W := [(h, .inr (11, [.int v_thrown, .int v_trouble, .int v_where, .ref h_inn, va_rf v_read, .ref h_tape, .int v_taped, .int v_size, .int v_at, .int v_sort, .int v_place, .int v_sign, .int v_number, .int v_fault, .int v_wrongAt, .long v_word, .ref h_far, .ref h_from, .ref h_real, .ref h_other, .ref h_kept, .ref h_set, .ref h_real, .int v_marks, .int v_notes, .ref h_book, .ref h_noteSort, .ref h_whose, .ref h_what, .ref h_noteIs, .ref h_fitting, .ref h_dawn, .ref h_likes, .ref h_walked, .ref h_came])), (h_inn, .inr (10, [.int v_inn_minutes, .int v_inn_rooms, .int v_inn_doors, .int v_inn_things, .int v_inn_dreams, .int v_inn_sleepers, .int v_inn_listeners, .int v_inn_names, .ref h_inn_creak, .ref h_inn_doorA, .ref h_inn_doorB, .ref h_inn_how, .ref h_inn_lies, .ref h_inn_isCold, .ref h_inn_falls, .ref h_inn_isFull, .ref h_inn_isTold, .ref h_inn_act, .ref h_inn_what, .ref h_inn_then, .ref h_inn_met, .ref h_inn_bed, .ref h_inn_dream, .ref h_inn_listens, .ref h_inn_name, .ref h_inn_nameSort, .ref h_inn_nameNumber])), (h_other, aI E 51 v_other), (h_inn_how, aI E 10 v_inn_how), (h_inn_lies, aI E 4 v_inn_lies), (h_inn_isFull, aZ E 4 v_inn_isFull), (h_inn_bed, aI E 3 v_inn_bed), (h_inn_isTold, aZ E 16 v_inn_isTold), (h_inn_act, aI E 16 v_inn_act), (h_inn_then, aI E 16 v_inn_then), (h_inn_what, aI E 16 v_inn_what), (h_inn_doorA, aI E 10 v_inn_doorA), (h_inn_doorB, aI E 10 v_inn_doorB), (h_from, aI E 8 v_from), (h_inn_falls, aZ E 10 v_inn_falls), (h_inn_creak, aI E 8 v_inn_creak), (h_inn_listens, aI E 3 v_inn_listens), (h_far, aI E 64 v_far), (h_inn_isCold, aZ E 8 v_inn_isCold), (h_inn_met, aI E 16 v_inn_met), (h_fitting, aI E 64 v_fitting), (h_book, aI E 20 v_book), (h_noteSort, aI E 20 v_noteSort), (h_whose, aI E 20 v_whose), (h_what, aI E 20 v_what), (h_noteIs, aZ E 20 v_noteIs)]
def fX12_fit (N : Nat) (p0 : Int32) (p1 : Int32) (p2 : Int32) (v_notes : Int32) (v_inn_minutes : Int32) (v_inn_rooms : Int32) (v_inn_doors : Int32) (v_inn_things : Int32) (v_inn_dreams : Int32) (v_inn_sleepers : Int32) (v_inn_listeners : Int32) (v_other : Nat → Int32) (v_inn_how : Nat → Int32) (v_inn_lies : Nat → Int32) (v_inn_isFull : Nat → Int32) (v_inn_bed : Nat → Int32) (v_inn_isTold : Nat → Int32) (v_inn_act : Nat → Int32) (v_inn_then : Nat → Int32) (v_inn_what : Nat → Int32) (v_inn_doorA : Nat → Int32) (v_inn_doorB : Nat → Int32) (v_from : Nat → Int32) (v_inn_falls : Nat → Int32) (v_inn_creak : Nat → Int32) (v_inn_listens : Nat → Int32) (v_far : Nat → Int32) (v_inn_isCold : Nat → Int32) (v_inn_met : Nat → Int32) (v_fitting : Nat → Int32) (v_book : Nat → Int32) (v_noteSort : Nat → Int32) (v_whose : Nat → Int32) (v_what : Nat → Int32) (v_noteIs : Nat → Int32) : Option (Int32 × Int32 × Int32 × Int32 × (Nat → Int32) × (Nat → Int32) × (Nat → Int32)) := (fX12_isSleeper N p2 v_inn_sleepers).bind (un1 fun (r_7 : Int32) => if r_7 = 0 then ((fX12_refused N 1).bind (un3 fun (r_15 : Int32) (v_trouble_15 : Int32) (v_where_15 : Int32) => some (r_15, 0, v_trouble_15, v_where_15, v_other, v_from, v_fitting))) else ((fX12_in N p0 0 3).bind (un1 fun (r_22 : Int32) => if r_22 = 0 then ((fX12_refused N 2).bind (un3 fun (r_30 : Int32) (v_trouble_30 : Int32) (v_where_30 : Int32) => some (r_30, 0, v_trouble_30, v_where_30, v_other, v_from, v_fitting))) else ((fX12_fitsBy N p0 v_notes v_inn_minutes v_inn_rooms v_inn_doors v_inn_things v_inn_dreams v_inn_sleepers v_inn_listeners v_other v_inn_how v_inn_lies v_inn_isFull v_inn_bed v_inn_isTold v_inn_act v_inn_then v_inn_what v_inn_doorA v_inn_doorB v_from v_inn_falls v_inn_creak v_inn_listens v_far v_inn_isCold v_inn_met v_fitting v_book v_noteSort v_whose v_what v_noteIs).bind (un4 fun (r_36 : Int32) (v_other_36 : Nat → Int32) (v_from_36 : Nat → Int32) (v_fitting_36 : Nat → Int32) => jn (un0 ((fX12_refused N 1).bind (un3 fun (r_71 : Int32) (v_trouble_71 : Int32) (v_where_71 : Int32) => some (r_71, 0, v_trouble_71, v_where_71, v_other_36, v_from_36, v_fitting_36)))) (fun j69 => if p1 < 0 then (j69 ()) else (if r_36 ≤ p1 then (j69 ()) else (gd p1 64 ((fX12_dreamIn N (v_fitting_36 p1.toNatClampNeg) p2 v_inn_dreams v_inn_sleepers).bind (un1 fun (r_60 : Int32) => (fX12_good N r_60).bind (un3 fun (r_63 : Int32) (v_trouble_63 : Int32) (v_where_63 : Int32) => some (r_63, 0, v_trouble_63, v_where_63, v_other_36, v_from_36, v_fitting_36))))))))))))
set_option maxHeartbeats 4000000 in
set_option maxRecDepth 100000 in
theorem ctX12_fit (l : Launch) (E : EN) (h h_inn h_tape h_far h_from h_real h_other h_kept h_set h_book h_noteSort h_whose h_what h_noteIs h_fitting h_dawn h_likes h_walked h_came h_inn_creak h_inn_doorA h_inn_doorB h_inn_how h_inn_lies h_inn_isCold h_inn_falls h_inn_isFull h_inn_isTold h_inn_act h_inn_what h_inn_then h_inn_met h_inn_bed h_inn_dream h_inn_listens h_inn_name h_inn_nameSort h_inn_nameNumber : Nat) (v_thrown : Int32) (v_trouble : Int32) (v_where : Int32) (v_read : Option Nat) (v_taped : Int32) (v_size : Int32) (v_at : Int32) (v_sort : Int32) (v_place : Int32) (v_sign : Int32) (v_number : Int32) (v_fault : Int32) (v_wrongAt : Int32) (v_word : Int64) (v_marks : Int32) (v_notes : Int32) (v_inn_minutes : Int32) (v_inn_rooms : Int32) (v_inn_doors : Int32) (v_inn_things : Int32) (v_inn_dreams : Int32) (v_inn_sleepers : Int32) (v_inn_listeners : Int32) (v_inn_names : Int32) (v_other : Nat → Int32) (v_inn_how : Nat → Int32) (v_inn_lies : Nat → Int32) (v_inn_isFull : Nat → Int32) (v_inn_bed : Nat → Int32) (v_inn_isTold : Nat → Int32) (v_inn_act : Nat → Int32) (v_inn_then : Nat → Int32) (v_inn_what : Nat → Int32) (v_inn_doorA : Nat → Int32) (v_inn_doorB : Nat → Int32) (v_from : Nat → Int32) (v_inn_falls : Nat → Int32) (v_inn_creak : Nat → Int32) (v_inn_listens : Nat → Int32) (v_far : Nat → Int32) (v_inn_isCold : Nat → Int32) (v_inn_met : Nat → Int32) (v_fitting : Nat → Int32) (v_book : Nat → Int32) (v_noteSort : Nat → Int32) (v_whose : Nat → Int32) (v_what : Nat → Int32) (v_noteIs : Nat → Int32) (N : Nat) (p0 : Int32) (p1 : Int32) (p2 : Int32) (z : Int32 × Int32 × Int32 × Int32 × (Nat → Int32) × (Nat → Int32) × (Nat → Int32)) (hf : fX12_fit N p0 p1 p2 v_notes v_inn_minutes v_inn_rooms v_inn_doors v_inn_things v_inn_dreams v_inn_sleepers v_inn_listeners v_other v_inn_how v_inn_lies v_inn_isFull v_inn_bed v_inn_isTold v_inn_act v_inn_then v_inn_what v_inn_doorA v_inn_doorB v_from v_inn_falls v_inn_creak v_inn_listens v_far v_inn_isCold v_inn_met v_fitting v_book v_noteSort v_whose v_what v_noteIs = some z) : CTi l E yX12_fit cX12_fit 5 .int 8 185 [.ref h, .int p0, .int p1, .int p2] (wX12_fit E h h_inn h_tape h_far h_from h_real h_other h_kept h_set h_book h_noteSort h_whose h_what h_noteIs h_fitting h_dawn h_likes h_walked h_came h_inn_creak h_inn_doorA h_inn_doorB h_inn_how h_inn_lies h_inn_isCold h_inn_falls h_inn_isFull h_inn_isTold h_inn_act h_inn_what h_inn_then h_inn_met h_inn_bed h_inn_dream h_inn_listens h_inn_name h_inn_nameSort h_inn_nameNumber v_thrown v_trouble v_where v_read v_taped v_size v_at v_sort v_place v_sign v_number v_fault v_wrongAt v_word v_marks v_notes v_inn_minutes v_inn_rooms v_inn_doors v_inn_things v_inn_dreams v_inn_sleepers v_inn_listeners v_inn_names v_other v_inn_how v_inn_lies v_inn_isFull v_inn_bed v_inn_isTold v_inn_act v_inn_then v_inn_what v_inn_doorA v_inn_doorB v_from v_inn_falls v_inn_creak v_inn_listens v_far v_inn_isCold v_inn_met v_fitting v_book v_noteSort v_whose v_what v_noteIs) (z.1) (wX12_fit E h h_inn h_tape h_far h_from h_real h_other h_kept h_set h_book h_noteSort h_whose h_what h_noteIs h_fitting h_dawn h_likes h_walked h_came h_inn_creak h_inn_doorA h_inn_doorB h_inn_how h_inn_lies h_inn_isCold h_inn_falls h_inn_isFull h_inn_isTold h_inn_act h_inn_what h_inn_then h_inn_met h_inn_bed h_inn_dream h_inn_listens h_inn_name h_inn_nameSort h_inn_nameNumber z.2.1 z.2.2.1 z.2.2.2.1 v_read v_taped v_size v_at v_sort v_place v_sign v_number v_fault v_wrongAt v_word v_marks v_notes v_inn_minutes v_inn_rooms v_inn_doors v_inn_things v_inn_dreams v_inn_sleepers v_inn_listeners v_inn_names z.2.2.2.2.1 v_inn_how v_inn_lies v_inn_isFull v_inn_bed v_inn_isTold v_inn_act v_inn_then v_inn_what v_inn_doorA v_inn_doorB z.2.2.2.2.2.1 v_inn_falls v_inn_creak v_inn_listens v_far v_inn_isCold v_inn_met z.2.2.2.2.2.2 v_book v_noteSort v_whose v_what v_noteIs) := by
  intro sz
  refine ct_body (by decide) (Nat.le_of_ble_eq_true rfl) ?_
  intro p e s m args below meth c A ls hAe C hr hin hP hD hS hl
  have C : CX p s m args meth c cX12_fit RX12 5 E A := C
  have hl : lv_has ls 5 [(0, .ref h), (1, .int p0), (2, .int p1), (3, .int p2)] := hl
  have hx := C.1
  have hb := C.2.1
  rw [hAe]
  clear hAe
  obtain ⟨Q, hQ⟩ : ∃ Q, Q = MQ below (Qi E A (z.1) (wX12_fit E h h_inn h_tape h_far h_from h_real h_other h_kept h_set h_book h_noteSort h_whose h_what h_noteIs h_fitting h_dawn h_likes h_walked h_came h_inn_creak h_inn_doorA h_inn_doorB h_inn_how h_inn_lies h_inn_isCold h_inn_falls h_inn_isFull h_inn_isTold h_inn_act h_inn_what h_inn_then h_inn_met h_inn_bed h_inn_dream h_inn_listens h_inn_name h_inn_nameSort h_inn_nameNumber z.2.1 z.2.2.1 z.2.2.2.1 v_read v_taped v_size v_at v_sort v_place v_sign v_number v_fault v_wrongAt v_word v_marks v_notes v_inn_minutes v_inn_rooms v_inn_doors v_inn_things v_inn_dreams v_inn_sleepers v_inn_listeners v_inn_names z.2.2.2.2.1 v_inn_how v_inn_lies v_inn_isFull v_inn_bed v_inn_isTold v_inn_act v_inn_then v_inn_what v_inn_doorA v_inn_doorB z.2.2.2.2.2.1 v_inn_falls v_inn_creak v_inn_listens v_far v_inn_isCold v_inn_met z.2.2.2.2.2.2 v_book v_noteSort v_whose v_what v_noteIs)) args s 0 0 A := ⟨_, rfl⟩
  rw [← hQ]
  unfold fX12_fit at hf
  refine lv_aload_n (pc := 0) hx hb dX12_fit_0 rfl (lv_at hl 0 rfl) ?_
  refine lv_iconst (pc := 1) (v := 0) hx hb dX12_fit_1 (by decide) ?_
  refine r_put (pc := 2) (ws' := (wX12_fit E h h_inn h_tape h_far h_from h_real h_other h_kept h_set h_book h_noteSort h_whose h_what h_noteIs h_fitting h_dawn h_likes h_walked h_came h_inn_creak h_inn_doorA h_inn_doorB h_inn_how h_inn_lies h_inn_isCold h_inn_falls h_inn_isFull h_inn_isTold h_inn_act h_inn_what h_inn_then h_inn_met h_inn_bed h_inn_dream h_inn_listens h_inn_name h_inn_nameSort h_inn_nameNumber 0 v_trouble v_where v_read v_taped v_size v_at v_sort v_place v_sign v_number v_fault v_wrongAt v_word v_marks v_notes v_inn_minutes v_inn_rooms v_inn_doors v_inn_things v_inn_dreams v_inn_sleepers v_inn_listeners v_inn_names v_other v_inn_how v_inn_lies v_inn_isFull v_inn_bed v_inn_isTold v_inn_act v_inn_then v_inn_what v_inn_doorA v_inn_doorB v_from v_inn_falls v_inn_creak v_inn_listens v_far v_inn_isCold v_inn_met v_fitting v_book v_noteSort v_whose v_what v_noteIs)) C hP hD hS 0 rfl fl_X12_71 rfl rfl (Nat.le_of_ble_eq_true rfl) rfl dX12_fit_2 ?_
  clear hP hD hS; intro H locs hP hD hS
  refine lv_aload_n (pc := 5) hx hb dX12_fit_5 rfl (lv_at hl 0 rfl) ?_
  refine lv_iload_n (pc := 6) hx hb dX12_fit_6 rfl (lv_at hl 3 rfl) ?_
  obtain ⟨r_7, hc_7, hf⟩ := bd1 hf
  refine r_dalVi (pc := 7) (ws' := (wX12_fit E h h_inn h_tape h_far h_from h_real h_other h_kept h_set h_book h_noteSort h_whose h_what h_noteIs h_fitting h_dawn h_likes h_walked h_came h_inn_creak h_inn_doorA h_inn_doorB h_inn_how h_inn_lies h_inn_isCold h_inn_falls h_inn_isFull h_inn_isTold h_inn_act h_inn_what h_inn_then h_inn_met h_inn_bed h_inn_dream h_inn_listens h_inn_name h_inn_nameSort h_inn_nameNumber 0 v_trouble v_where v_read v_taped v_size v_at v_sort v_place v_sign v_number v_fault v_wrongAt v_word v_marks v_notes v_inn_minutes v_inn_rooms v_inn_doors v_inn_things v_inn_dreams v_inn_sleepers v_inn_listeners v_inn_names v_other v_inn_how v_inn_lies v_inn_isFull v_inn_bed v_inn_isTold v_inn_act v_inn_then v_inn_what v_inn_doorA v_inn_doorB v_from v_inn_falls v_inn_creak v_inn_listens v_far v_inn_isCold v_inn_met v_fitting v_book v_noteSort v_whose v_what v_noteIs)) (As := [.int p2]) (rest := []) C (ctX12_isSleeper l E h h_inn h_tape h_far h_from h_real h_other h_kept h_set h_real h_book h_noteSort h_whose h_what h_noteIs h_fitting h_dawn h_likes h_walked h_came h_inn_creak h_inn_doorA h_inn_doorB h_inn_how h_inn_lies h_inn_isCold h_inn_falls h_inn_isFull h_inn_isTold h_inn_act h_inn_what h_inn_then h_inn_met h_inn_bed h_inn_dream h_inn_listens h_inn_name h_inn_nameSort h_inn_nameNumber 0 v_trouble v_where v_read v_taped v_size v_at v_sort v_place v_sign v_number v_fault v_wrongAt v_word v_marks v_notes v_inn_minutes v_inn_rooms v_inn_doors v_inn_things v_inn_dreams v_inn_sleepers v_inn_listeners v_inn_names N p2 r_7 hc_7) ml_X12_421 ⟨Nat.le_of_ble_eq_true rfl, Nat.le_of_ble_eq_true rfl⟩ hP hD hS 0 rfl rfl rfl [0, 1] [26, 27, 2, 3, 4, 5, 6, 7, 8, 9, 10, 11, 12, 13, 14, 15, 16, 17, 18, 19, 20, 21, 22, 23, 24, 25] 26 rfl rfl rfl rfl rfl rfl rfl hl.1 rfl (Nat.le_of_ble_eq_true rfl) ⟨Nat.zero_le _, Nat.zero_le _⟩ dX12_fit_7 ?_
  clear hP hD hS; intro H locs hP hD hS
  refine lv_if_ne (pc := 10) (tgt := 19) hx hb dX12_fit_10 (by decide) (fun c_10 => ?_) (fun c_10 => ?_)
  · replace hf := it_f c_10 hf
    refine lv_iload_n (pc := 19) hx hb dX12_fit_19 rfl (lv_at hl 1 rfl) ?_
    refine lv_iconst (pc := 20) (v := 0) hx hb dX12_fit_20 (by decide) ?_
    refine lv_iconst (pc := 21) (v := 3) hx hb dX12_fit_21 (by decide) ?_
    obtain ⟨r_22, hc_22, hf⟩ := bd1 hf
    refine r_dalSi (pc := 22) (Cn := "") (h := 0) (ws' := (wX12_fit E h h_inn h_tape h_far h_from h_real h_other h_kept h_set h_book h_noteSort h_whose h_what h_noteIs h_fitting h_dawn h_likes h_walked h_came h_inn_creak h_inn_doorA h_inn_doorB h_inn_how h_inn_lies h_inn_isCold h_inn_falls h_inn_isFull h_inn_isTold h_inn_act h_inn_what h_inn_then h_inn_met h_inn_bed h_inn_dream h_inn_listens h_inn_name h_inn_nameSort h_inn_nameNumber 0 v_trouble v_where v_read v_taped v_size v_at v_sort v_place v_sign v_number v_fault v_wrongAt v_word v_marks v_notes v_inn_minutes v_inn_rooms v_inn_doors v_inn_things v_inn_dreams v_inn_sleepers v_inn_listeners v_inn_names v_other v_inn_how v_inn_lies v_inn_isFull v_inn_bed v_inn_isTold v_inn_act v_inn_then v_inn_what v_inn_doorA v_inn_doorB v_from v_inn_falls v_inn_creak v_inn_listens v_far v_inn_isCold v_inn_met v_fitting v_book v_noteSort v_whose v_what v_noteIs)) (As := [.int p0, .int 0, .int 3]) (rest := []) C (ctX12_in l E N p0 0 3 r_22 hc_22) ml_X12_149 ⟨Nat.le_of_ble_eq_true rfl, Nat.le_of_ble_eq_true rfl⟩ hP hD hS [] [0, 1, 2, 3, 4, 5, 6, 7, 8, 9, 10, 11, 12, 13, 14, 15, 16, 17, 18, 19, 20, 21, 22, 23, 24, 25] 26 rfl rfl rfl rfl rfl rfl rfl hl.1 rfl (Nat.le_of_ble_eq_true rfl) ⟨Nat.zero_le _, Nat.zero_le _⟩ dX12_fit_22 ?_
    clear hP hD hS; intro H locs hP hD hS
    refine lv_if_ne (pc := 25) (tgt := 34) hx hb dX12_fit_25 (by decide) (fun c_25 => ?_) (fun c_25 => ?_)
    · replace hf := it_f c_25 hf
      refine lv_aload_n (pc := 34) hx hb dX12_fit_34 rfl (lv_at hl 0 rfl) ?_
      refine lv_iload_n (pc := 35) hx hb dX12_fit_35 rfl (lv_at hl 1 rfl) ?_
      obtain ⟨r_36, v_other_36, v_from_36, v_fitting_36, hc_36, hf⟩ := bd4 hf
      refine r_dalVi (pc := 36) (ws' := (wX12_fit E h h_inn h_tape h_far h_from h_real h_other h_kept h_set h_book h_noteSort h_whose h_what h_noteIs h_fitting h_dawn h_likes h_walked h_came h_inn_creak h_inn_doorA h_inn_doorB h_inn_how h_inn_lies h_inn_isCold h_inn_falls h_inn_isFull h_inn_isTold h_inn_act h_inn_what h_inn_then h_inn_met h_inn_bed h_inn_dream h_inn_listens h_inn_name h_inn_nameSort h_inn_nameNumber 0 v_trouble v_where v_read v_taped v_size v_at v_sort v_place v_sign v_number v_fault v_wrongAt v_word v_marks v_notes v_inn_minutes v_inn_rooms v_inn_doors v_inn_things v_inn_dreams v_inn_sleepers v_inn_listeners v_inn_names v_other_36 v_inn_how v_inn_lies v_inn_isFull v_inn_bed v_inn_isTold v_inn_act v_inn_then v_inn_what v_inn_doorA v_inn_doorB v_from_36 v_inn_falls v_inn_creak v_inn_listens v_far v_inn_isCold v_inn_met v_fitting_36 v_book v_noteSort v_whose v_what v_noteIs)) (As := [.int p0]) (rest := []) C (ctX12_fitsBy l E h h_inn h_tape h_far h_from h_real h_other h_kept h_set h_book h_noteSort h_whose h_what h_noteIs h_fitting h_dawn h_likes h_walked h_came h_inn_creak h_inn_doorA h_inn_doorB h_inn_how h_inn_lies h_inn_isCold h_inn_falls h_inn_isFull h_inn_isTold h_inn_act h_inn_what h_inn_then h_inn_met h_inn_bed h_inn_dream h_inn_listens h_inn_name h_inn_nameSort h_inn_nameNumber 0 v_trouble v_where v_read v_taped v_size v_at v_sort v_place v_sign v_number v_fault v_wrongAt v_word v_marks v_notes v_inn_minutes v_inn_rooms v_inn_doors v_inn_things v_inn_dreams v_inn_sleepers v_inn_listeners v_inn_names v_other v_inn_how v_inn_lies v_inn_isFull v_inn_bed v_inn_isTold v_inn_act v_inn_then v_inn_what v_inn_doorA v_inn_doorB v_from v_inn_falls v_inn_creak v_inn_listens v_far v_inn_isCold v_inn_met v_fitting v_book v_noteSort v_whose v_what v_noteIs N p0 (r_36, v_other_36, v_from_36, v_fitting_36) hc_36) ml_X12_464 ⟨Nat.le_of_ble_eq_true rfl, Nat.le_of_ble_eq_true rfl⟩ hP hD hS 0 rfl rfl rfl [0, 1, 2, 3, 4, 5, 6, 7, 8, 9, 10, 11, 12, 13, 14, 15, 16, 17, 18, 19, 20, 21, 22, 23, 24, 25] [26, 27, 28, 29, 30, 31, 32, 33, 34, 35, 36, 37, 38, 39, 40, 41, 42, 43, 44, 45, 46, 47, 48, 49, 50, 51] 26 rfl rfl rfl rfl rfl rfl rfl hl.1 rfl (Nat.le_of_ble_eq_true rfl) ⟨Nat.zero_le _, Nat.zero_le _⟩ dX12_fit_36 ?_
      clear hP hD hS; intro H locs hP hD hS
      refine lv_istore (pc := 39) (lv' := [(4, .int r_36), (0, .ref h), (1, .int p0), (2, .int p1), (3, .int p2)]) hx hb dX12_fit_39 hl (by decide) rfl (fun ls hl => ?_)
      refine lv_iload_n (pc := 41) hx hb dX12_fit_41 rfl (lv_at hl 3 rfl) ?_
      refine jnK hf (fun j69 ej69 hf => ?_)
      have hj69 : j69 () = some z → AT p l e (rmOf 8 185) s m args below meth c E A Q 0 0 5 [(0, .ref h)] (wX12_fit E h h_inn h_tape h_far h_from h_real h_other h_kept h_set h_book h_noteSort h_whose h_what h_noteIs h_fitting h_dawn h_likes h_walked h_came h_inn_creak h_inn_doorA h_inn_doorB h_inn_how h_inn_lies h_inn_isCold h_inn_falls h_inn_isFull h_inn_isTold h_inn_act h_inn_what h_inn_then h_inn_met h_inn_bed h_inn_dream h_inn_listens h_inn_name h_inn_nameSort h_inn_nameNumber 0 v_trouble v_where v_read v_taped v_size v_at v_sort v_place v_sign v_number v_fault v_wrongAt v_word v_marks v_notes v_inn_minutes v_inn_rooms v_inn_doors v_inn_things v_inn_dreams v_inn_sleepers v_inn_listeners v_inn_names v_other_36 v_inn_how v_inn_lies v_inn_isFull v_inn_bed v_inn_isTold v_inn_act v_inn_then v_inn_what v_inn_doorA v_inn_doorB v_from_36 v_inn_falls v_inn_creak v_inn_listens v_far v_inn_isCold v_inn_met v_fitting_36 v_book v_noteSort v_whose v_what v_noteIs) 69 [] := by
        intro  hf H locs ls hl hP hD hS
        rw [ej69] at hf
        replace hf := un0_s hf
        refine lv_aload_n (pc := 69) hx hb dX12_fit_69 rfl (lv_at hl 0 rfl) ?_
        refine lv_iconst (pc := 70) (v := 1) hx hb dX12_fit_70 (by decide) ?_
        obtain ⟨r_71, v_trouble_71, v_where_71, hc_71, hf⟩ := bd3 hf
        refine r_dalVi (pc := 71) (ws' := (wX12_fit E h h_inn h_tape h_far h_from h_real h_other h_kept h_set h_book h_noteSort h_whose h_what h_noteIs h_fitting h_dawn h_likes h_walked h_came h_inn_creak h_inn_doorA h_inn_doorB h_inn_how h_inn_lies h_inn_isCold h_inn_falls h_inn_isFull h_inn_isTold h_inn_act h_inn_what h_inn_then h_inn_met h_inn_bed h_inn_dream h_inn_listens h_inn_name h_inn_nameSort h_inn_nameNumber 0 v_trouble_71 v_where_71 v_read v_taped v_size v_at v_sort v_place v_sign v_number v_fault v_wrongAt v_word v_marks v_notes v_inn_minutes v_inn_rooms v_inn_doors v_inn_things v_inn_dreams v_inn_sleepers v_inn_listeners v_inn_names v_other_36 v_inn_how v_inn_lies v_inn_isFull v_inn_bed v_inn_isTold v_inn_act v_inn_then v_inn_what v_inn_doorA v_inn_doorB v_from_36 v_inn_falls v_inn_creak v_inn_listens v_far v_inn_isCold v_inn_met v_fitting_36 v_book v_noteSort v_whose v_what v_noteIs)) (As := [.int 1]) (rest := []) C (ctX12_refused l E h h_tape h_far h_from h_real h_other h_kept h_set h_real h_book h_noteSort h_whose h_what h_noteIs h_fitting h_dawn h_likes h_walked h_came 0 v_trouble v_where (some h_inn) v_read v_taped v_size v_at v_sort v_place v_sign v_number v_fault v_wrongAt v_word v_marks v_notes N 1 (r_71, v_trouble_71, v_where_71) hc_71) ml_X12_77 ⟨Nat.le_of_ble_eq_true rfl, Nat.le_of_ble_eq_true rfl⟩ hP hD hS 0 rfl rfl rfl [0] [26, 1, 2, 3, 4, 5, 6, 7, 8, 9, 10, 11, 12, 13, 14, 15, 16, 17, 18, 19, 20, 21, 22, 23, 24, 25] 26 rfl rfl rfl rfl rfl rfl rfl hl.1 rfl (Nat.le_of_ble_eq_true rfl) ⟨Nat.zero_le _, Nat.zero_le _⟩ dX12_fit_71 ?_
        clear hP hD hS; intro H locs hP hD hS
        cases hf
        rw [hQ]
        exact r_iret C hr hP hD hS rfl dX12_fit_74
      clear ej69
      refine lv_if_lt (pc := 42) (tgt := 69) hx hb dX12_fit_42 (by decide) (fun c_42 => ?_) (fun c_42 => ?_)
      · replace hf := it_t c_42 hf
        exact hj69  hf _ _ _ (lv_sub hl [1] rfl) hP hD hS
      · replace hf := it_f c_42 hf
        refine lv_iload_n (pc := 45) hx hb dX12_fit_45 rfl (lv_at hl 3 rfl) ?_
        refine lv_iload (pc := 46) hx hb dX12_fit_46 (lv_at hl 0 rfl) ?_
        refine lv_icmp_ge (pc := 48) (tgt := 69) hx hb dX12_fit_48 (by decide) (fun c_48 => ?_) (fun c_48 => ?_)
        · replace hf := it_t c_48 hf
          exact hj69  hf _ _ _ (lv_sub hl [1] rfl) hP hD hS
        · replace hf := it_f c_48 hf
          refine lv_aload_n (pc := 51) hx hb dX12_fit_51 rfl (lv_at hl 1 rfl) ?_
          refine lv_aload_n (pc := 52) hx hb dX12_fit_52 rfl (lv_at hl 1 rfl) ?_
          refine lv_aload_n (pc := 53) hx hb dX12_fit_53 rfl (lv_at hl 1 rfl) ?_
          refine r_get (pc := 54) C hP 0 rfl fl_X12_55 rfl dX12_fit_54 ?_
          refine lv_iload_n (pc := 57) hx hb dX12_fit_57 rfl (lv_at hl 3 rfl) ?_
          obtain ⟨hi_58, hf⟩ := gd_s hf
          refine r_iald (pc := 58) C hP 20 rfl hi_58 dX12_fit_58 ?_
          refine lv_iload_n (pc := 59) hx hb dX12_fit_59 rfl (lv_at hl 4 rfl) ?_
          obtain ⟨r_60, hc_60, hf⟩ := bd1 hf
          refine r_dalVi (pc := 60) (ws' := (wX12_fit E h h_inn h_tape h_far h_from h_real h_other h_kept h_set h_book h_noteSort h_whose h_what h_noteIs h_fitting h_dawn h_likes h_walked h_came h_inn_creak h_inn_doorA h_inn_doorB h_inn_how h_inn_lies h_inn_isCold h_inn_falls h_inn_isFull h_inn_isTold h_inn_act h_inn_what h_inn_then h_inn_met h_inn_bed h_inn_dream h_inn_listens h_inn_name h_inn_nameSort h_inn_nameNumber 0 v_trouble v_where v_read v_taped v_size v_at v_sort v_place v_sign v_number v_fault v_wrongAt v_word v_marks v_notes v_inn_minutes v_inn_rooms v_inn_doors v_inn_things v_inn_dreams v_inn_sleepers v_inn_listeners v_inn_names v_other_36 v_inn_how v_inn_lies v_inn_isFull v_inn_bed v_inn_isTold v_inn_act v_inn_then v_inn_what v_inn_doorA v_inn_doorB v_from_36 v_inn_falls v_inn_creak v_inn_listens v_far v_inn_isCold v_inn_met v_fitting_36 v_book v_noteSort v_whose v_what v_noteIs)) (As := [.int (v_fitting_36 p1.toNatClampNeg), .int p2]) (rest := [.ref h]) C (ctX12_dreamIn l E h h_inn h_tape h_far h_from h_real h_other h_kept h_set h_real h_book h_noteSort h_whose h_what h_noteIs h_fitting h_dawn h_likes h_walked h_came h_inn_creak h_inn_doorA h_inn_doorB h_inn_how h_inn_lies h_inn_isCold h_inn_falls h_inn_isFull h_inn_isTold h_inn_act h_inn_what h_inn_then h_inn_met h_inn_bed h_inn_dream h_inn_listens h_inn_name h_inn_nameSort h_inn_nameNumber 0 v_trouble v_where v_read v_taped v_size v_at v_sort v_place v_sign v_number v_fault v_wrongAt v_word v_marks v_notes v_inn_minutes v_inn_rooms v_inn_doors v_inn_things v_inn_dreams v_inn_sleepers v_inn_listeners v_inn_names N (v_fitting_36 p1.toNatClampNeg) p2 r_60 hc_60) ml_X12_467 ⟨Nat.le_of_ble_eq_true rfl, Nat.le_of_ble_eq_true rfl⟩ hP hD hS 0 rfl rfl rfl [0, 1] [26, 27, 2, 3, 4, 5, 6, 7, 8, 9, 10, 11, 12, 13, 14, 15, 16, 17, 18, 19, 20, 21, 22, 23, 24, 25] 26 rfl rfl rfl rfl rfl rfl rfl hl.1 rfl (Nat.le_of_ble_eq_true rfl) ⟨Nat.zero_le _, Nat.zero_le _⟩ dX12_fit_60 ?_
          clear hP hD hS; intro H locs hP hD hS
          obtain ⟨r_63, v_trouble_63, v_where_63, hc_63, hf⟩ := bd3 hf
          refine r_dalVi (pc := 63) (ws' := (wX12_fit E h h_inn h_tape h_far h_from h_real h_other h_kept h_set h_book h_noteSort h_whose h_what h_noteIs h_fitting h_dawn h_likes h_walked h_came h_inn_creak h_inn_doorA h_inn_doorB h_inn_how h_inn_lies h_inn_isCold h_inn_falls h_inn_isFull h_inn_isTold h_inn_act h_inn_what h_inn_then h_inn_met h_inn_bed h_inn_dream h_inn_listens h_inn_name h_inn_nameSort h_inn_nameNumber 0 v_trouble_63 v_where_63 v_read v_taped v_size v_at v_sort v_place v_sign v_number v_fault v_wrongAt v_word v_marks v_notes v_inn_minutes v_inn_rooms v_inn_doors v_inn_things v_inn_dreams v_inn_sleepers v_inn_listeners v_inn_names v_other_36 v_inn_how v_inn_lies v_inn_isFull v_inn_bed v_inn_isTold v_inn_act v_inn_then v_inn_what v_inn_doorA v_inn_doorB v_from_36 v_inn_falls v_inn_creak v_inn_listens v_far v_inn_isCold v_inn_met v_fitting_36 v_book v_noteSort v_whose v_what v_noteIs)) (As := [.int r_60]) (rest := []) C (ctX12_good l E h h_tape h_far h_from h_real h_other h_kept h_set h_real h_book h_noteSort h_whose h_what h_noteIs h_fitting h_dawn h_likes h_walked h_came 0 v_trouble v_where (some h_inn) v_read v_taped v_size v_at v_sort v_place v_sign v_number v_fault v_wrongAt v_word v_marks v_notes N r_60 (r_63, v_trouble_63, v_where_63) hc_63) ml_X12_81 ⟨Nat.le_of_ble_eq_true rfl, Nat.le_of_ble_eq_true rfl⟩ hP hD hS 0 rfl rfl rfl [0] [26, 1, 2, 3, 4, 5, 6, 7, 8, 9, 10, 11, 12, 13, 14, 15, 16, 17, 18, 19, 20, 21, 22, 23, 24, 25] 26 rfl rfl rfl rfl rfl rfl rfl hl.1 rfl (Nat.le_of_ble_eq_true rfl) ⟨Nat.zero_le _, Nat.zero_le _⟩ dX12_fit_63 ?_
          clear hP hD hS; intro H locs hP hD hS
          refine lv_goto (pc := 66) (tgt := 74) hx hb dX12_fit_66 (by decide) ?_
          cases hf
          rw [hQ]
          exact r_iret C hr hP hD hS rfl dX12_fit_74
    · replace hf := it_t c_25 hf
      refine lv_aload_n (pc := 28) hx hb dX12_fit_28 rfl (lv_at hl 0 rfl) ?_
      refine lv_iconst (pc := 29) (v := 2) hx hb dX12_fit_29 (by decide) ?_
      obtain ⟨r_30, v_trouble_30, v_where_30, hc_30, hf⟩ := bd3 hf
      refine r_dalVi (pc := 30) (ws' := (wX12_fit E h h_inn h_tape h_far h_from h_real h_other h_kept h_set h_book h_noteSort h_whose h_what h_noteIs h_fitting h_dawn h_likes h_walked h_came h_inn_creak h_inn_doorA h_inn_doorB h_inn_how h_inn_lies h_inn_isCold h_inn_falls h_inn_isFull h_inn_isTold h_inn_act h_inn_what h_inn_then h_inn_met h_inn_bed h_inn_dream h_inn_listens h_inn_name h_inn_nameSort h_inn_nameNumber 0 v_trouble_30 v_where_30 v_read v_taped v_size v_at v_sort v_place v_sign v_number v_fault v_wrongAt v_word v_marks v_notes v_inn_minutes v_inn_rooms v_inn_doors v_inn_things v_inn_dreams v_inn_sleepers v_inn_listeners v_inn_names v_other v_inn_how v_inn_lies v_inn_isFull v_inn_bed v_inn_isTold v_inn_act v_inn_then v_inn_what v_inn_doorA v_inn_doorB v_from v_inn_falls v_inn_creak v_inn_listens v_far v_inn_isCold v_inn_met v_fitting v_book v_noteSort v_whose v_what v_noteIs)) (As := [.int 2]) (rest := []) C (ctX12_refused l E h h_tape h_far h_from h_real h_other h_kept h_set h_real h_book h_noteSort h_whose h_what h_noteIs h_fitting h_dawn h_likes h_walked h_came 0 v_trouble v_where (some h_inn) v_read v_taped v_size v_at v_sort v_place v_sign v_number v_fault v_wrongAt v_word v_marks v_notes N 2 (r_30, v_trouble_30, v_where_30) hc_30) ml_X12_77 ⟨Nat.le_of_ble_eq_true rfl, Nat.le_of_ble_eq_true rfl⟩ hP hD hS 0 rfl rfl rfl [0] [26, 1, 2, 3, 4, 5, 6, 7, 8, 9, 10, 11, 12, 13, 14, 15, 16, 17, 18, 19, 20, 21, 22, 23, 24, 25] 26 rfl rfl rfl rfl rfl rfl rfl hl.1 rfl (Nat.le_of_ble_eq_true rfl) ⟨Nat.zero_le _, Nat.zero_le _⟩ dX12_fit_30 ?_
      clear hP hD hS; intro H locs hP hD hS
      cases hf
      rw [hQ]
      exact r_iret C hr hP hD hS rfl dX12_fit_33
  · replace hf := it_t c_10 hf
    refine lv_aload_n (pc := 13) hx hb dX12_fit_13 rfl (lv_at hl 0 rfl) ?_
    refine lv_iconst (pc := 14) (v := 1) hx hb dX12_fit_14 (by decide) ?_
    obtain ⟨r_15, v_trouble_15, v_where_15, hc_15, hf⟩ := bd3 hf
    refine r_dalVi (pc := 15) (ws' := (wX12_fit E h h_inn h_tape h_far h_from h_real h_other h_kept h_set h_book h_noteSort h_whose h_what h_noteIs h_fitting h_dawn h_likes h_walked h_came h_inn_creak h_inn_doorA h_inn_doorB h_inn_how h_inn_lies h_inn_isCold h_inn_falls h_inn_isFull h_inn_isTold h_inn_act h_inn_what h_inn_then h_inn_met h_inn_bed h_inn_dream h_inn_listens h_inn_name h_inn_nameSort h_inn_nameNumber 0 v_trouble_15 v_where_15 v_read v_taped v_size v_at v_sort v_place v_sign v_number v_fault v_wrongAt v_word v_marks v_notes v_inn_minutes v_inn_rooms v_inn_doors v_inn_things v_inn_dreams v_inn_sleepers v_inn_listeners v_inn_names v_other v_inn_how v_inn_lies v_inn_isFull v_inn_bed v_inn_isTold v_inn_act v_inn_then v_inn_what v_inn_doorA v_inn_doorB v_from v_inn_falls v_inn_creak v_inn_listens v_far v_inn_isCold v_inn_met v_fitting v_book v_noteSort v_whose v_what v_noteIs)) (As := [.int 1]) (rest := []) C (ctX12_refused l E h h_tape h_far h_from h_real h_other h_kept h_set h_real h_book h_noteSort h_whose h_what h_noteIs h_fitting h_dawn h_likes h_walked h_came 0 v_trouble v_where (some h_inn) v_read v_taped v_size v_at v_sort v_place v_sign v_number v_fault v_wrongAt v_word v_marks v_notes N 1 (r_15, v_trouble_15, v_where_15) hc_15) ml_X12_77 ⟨Nat.le_of_ble_eq_true rfl, Nat.le_of_ble_eq_true rfl⟩ hP hD hS 0 rfl rfl rfl [0] [26, 1, 2, 3, 4, 5, 6, 7, 8, 9, 10, 11, 12, 13, 14, 15, 16, 17, 18, 19, 20, 21, 22, 23, 24, 25] 26 rfl rfl rfl rfl rfl rfl rfl hl.1 rfl (Nat.le_of_ble_eq_true rfl) ⟨Nat.zero_le _, Nat.zero_le _⟩ dX12_fit_15 ?_
    clear hP hD hS; intro H locs hP hD hS
    cases hf
    rw [hQ]
    exact r_iret C hr hP hD hS rfl dX12_fit_18
def wX12_fit0 (E : EN) (h h_tape h_far h_from h_real h_other h_kept h_set h_book h_noteSort h_whose h_what h_noteIs h_fitting h_dawn h_likes h_walked h_came : Nat) (v_thrown : Int32) (v_trouble : Int32) (v_where : Int32) (v_read : Option Nat) (v_taped : Int32) (v_size : Int32) (v_at : Int32) (v_sort : Int32) (v_place : Int32) (v_sign : Int32) (v_number : Int32) (v_fault : Int32) (v_wrongAt : Int32) (v_word : Int64) (v_marks : Int32) (v_notes : Int32) : va_W := [(h, .inr (11, [.int v_thrown, .int v_trouble, .int v_where, .null, va_rf v_read, .ref h_tape, .int v_taped, .int v_size, .int v_at, .int v_sort, .int v_place, .int v_sign, .int v_number, .int v_fault, .int v_wrongAt, .long v_word, .ref h_far, .ref h_from, .ref h_real, .ref h_other, .ref h_kept, .ref h_set, .ref h_real, .int v_marks, .int v_notes, .ref h_book, .ref h_noteSort, .ref h_whose, .ref h_what, .ref h_noteIs, .ref h_fitting, .ref h_dawn, .ref h_likes, .ref h_walked, .ref h_came]))]
def fX12_fit0 (N : Nat) (p0 : Int32) : Option (Int32 × Int32 × Int32 × Int32) := (fX12_isSleeper0 N).bind (un1 fun (r_7 : Int32) => if r_7 = 0 then ((fX12_refused N 1).bind (un3 fun (r_15 : Int32) (v_trouble_15 : Int32) (v_where_15 : Int32) => some (r_15, 0, v_trouble_15, v_where_15))) else ((fX12_in N p0 0 3).bind (un1 fun (r_22 : Int32) => if r_22 = 0 then ((fX12_refused N 2).bind (un3 fun (r_30 : Int32) (v_trouble_30 : Int32) (v_where_30 : Int32) => some (r_30, 0, v_trouble_30, v_where_30))) else (none))))
set_option maxHeartbeats 4000000 in
set_option maxRecDepth 100000 in
theorem ctX12_fit0 (l : Launch) (E : EN) (h h_tape h_far h_from h_real h_other h_kept h_set h_book h_noteSort h_whose h_what h_noteIs h_fitting h_dawn h_likes h_walked h_came : Nat) (v_thrown : Int32) (v_trouble : Int32) (v_where : Int32) (v_read : Option Nat) (v_taped : Int32) (v_size : Int32) (v_at : Int32) (v_sort : Int32) (v_place : Int32) (v_sign : Int32) (v_number : Int32) (v_fault : Int32) (v_wrongAt : Int32) (v_word : Int64) (v_marks : Int32) (v_notes : Int32) (N : Nat) (p0 : Int32) (p1 : Int32) (p2 : Int32) (z : Int32 × Int32 × Int32 × Int32) (hf : fX12_fit0 N p0 = some z) : CTi l E yX12_fit cX12_fit 5 .int 1 22 [.ref h, .int p0, .int p1, .int p2] (wX12_fit0 E h h_tape h_far h_from h_real h_other h_kept h_set h_book h_noteSort h_whose h_what h_noteIs h_fitting h_dawn h_likes h_walked h_came v_thrown v_trouble v_where v_read v_taped v_size v_at v_sort v_place v_sign v_number v_fault v_wrongAt v_word v_marks v_notes) (z.1) (wX12_fit0 E h h_tape h_far h_from h_real h_other h_kept h_set h_book h_noteSort h_whose h_what h_noteIs h_fitting h_dawn h_likes h_walked h_came z.2.1 z.2.2.1 z.2.2.2 v_read v_taped v_size v_at v_sort v_place v_sign v_number v_fault v_wrongAt v_word v_marks v_notes) := by
  intro sz
  refine ct_body (by decide) (Nat.le_of_ble_eq_true rfl) ?_
  intro p e s m args below meth c A ls hAe C hr hin hP hD hS hl
  have C : CX p s m args meth c cX12_fit RX12 5 E A := C
  have hl : lv_has ls 5 [(0, .ref h), (1, .int p0), (2, .int p1), (3, .int p2)] := hl
  have hx := C.1
  have hb := C.2.1
  rw [hAe]
  clear hAe
  obtain ⟨Q, hQ⟩ : ∃ Q, Q = MQ below (Qi E A (z.1) (wX12_fit0 E h h_tape h_far h_from h_real h_other h_kept h_set h_book h_noteSort h_whose h_what h_noteIs h_fitting h_dawn h_likes h_walked h_came z.2.1 z.2.2.1 z.2.2.2 v_read v_taped v_size v_at v_sort v_place v_sign v_number v_fault v_wrongAt v_word v_marks v_notes)) args s 0 0 A := ⟨_, rfl⟩
  rw [← hQ]
  unfold fX12_fit0 at hf
  refine lv_aload_n (pc := 0) hx hb dX12_fit_0 rfl (lv_at hl 0 rfl) ?_
  refine lv_iconst (pc := 1) (v := 0) hx hb dX12_fit_1 (by decide) ?_
  refine r_put (pc := 2) (ws' := (wX12_fit0 E h h_tape h_far h_from h_real h_other h_kept h_set h_book h_noteSort h_whose h_what h_noteIs h_fitting h_dawn h_likes h_walked h_came 0 v_trouble v_where v_read v_taped v_size v_at v_sort v_place v_sign v_number v_fault v_wrongAt v_word v_marks v_notes)) C hP hD hS 0 rfl fl_X12_71 rfl rfl (Nat.le_of_ble_eq_true rfl) rfl dX12_fit_2 ?_
  clear hP hD hS; intro H locs hP hD hS
  refine lv_aload_n (pc := 5) hx hb dX12_fit_5 rfl (lv_at hl 0 rfl) ?_
  refine lv_iload_n (pc := 6) hx hb dX12_fit_6 rfl (lv_at hl 3 rfl) ?_
  obtain ⟨r_7, hc_7, hf⟩ := bd1 hf
  refine r_dalVi (pc := 7) (ws' := (wX12_fit0 E h h_tape h_far h_from h_real h_other h_kept h_set h_book h_noteSort h_whose h_what h_noteIs h_fitting h_dawn h_likes h_walked h_came 0 v_trouble v_where v_read v_taped v_size v_at v_sort v_place v_sign v_number v_fault v_wrongAt v_word v_marks v_notes)) (As := [.int p2]) (rest := []) C (ctX12_isSleeper0 l E h h_tape h_far h_from h_real h_other h_kept h_set h_real h_book h_noteSort h_whose h_what h_noteIs h_fitting h_dawn h_likes h_walked h_came 0 v_trouble v_where v_read v_taped v_size v_at v_sort v_place v_sign v_number v_fault v_wrongAt v_word v_marks v_notes N p2 r_7 hc_7) ml_X12_421 ⟨Nat.le_of_ble_eq_true rfl, Nat.le_of_ble_eq_true rfl⟩ hP hD hS 0 rfl rfl rfl [0] [1] 1 rfl rfl rfl rfl rfl rfl rfl hl.1 rfl (Nat.le_of_ble_eq_true rfl) ⟨Nat.zero_le _, Nat.zero_le _⟩ dX12_fit_7 ?_
  clear hP hD hS; intro H locs hP hD hS
  refine lv_if_ne (pc := 10) (tgt := 19) hx hb dX12_fit_10 (by decide) (fun c_10 => ?_) (fun c_10 => ?_)
  · replace hf := it_f c_10 hf
    refine lv_iload_n (pc := 19) hx hb dX12_fit_19 rfl (lv_at hl 1 rfl) ?_
    refine lv_iconst (pc := 20) (v := 0) hx hb dX12_fit_20 (by decide) ?_
    refine lv_iconst (pc := 21) (v := 3) hx hb dX12_fit_21 (by decide) ?_
    obtain ⟨r_22, hc_22, hf⟩ := bd1 hf
    refine r_dalSi (pc := 22) (Cn := "") (h := 0) (ws' := (wX12_fit0 E h h_tape h_far h_from h_real h_other h_kept h_set h_book h_noteSort h_whose h_what h_noteIs h_fitting h_dawn h_likes h_walked h_came 0 v_trouble v_where v_read v_taped v_size v_at v_sort v_place v_sign v_number v_fault v_wrongAt v_word v_marks v_notes)) (As := [.int p0, .int 0, .int 3]) (rest := []) C (ctX12_in l E N p0 0 3 r_22 hc_22) ml_X12_149 ⟨Nat.le_of_ble_eq_true rfl, Nat.le_of_ble_eq_true rfl⟩ hP hD hS [] [0] 1 rfl rfl rfl rfl rfl rfl rfl hl.1 rfl (Nat.le_of_ble_eq_true rfl) ⟨Nat.zero_le _, Nat.zero_le _⟩ dX12_fit_22 ?_
    clear hP hD hS; intro H locs hP hD hS
    refine lv_if_ne (pc := 25) (tgt := 34) hx hb dX12_fit_25 (by decide) (fun c_25 => ?_) (fun c_25 => ?_)
    · replace hf := it_f c_25 hf
      refine lv_aload_n (pc := 34) hx hb dX12_fit_34 rfl (lv_at hl 0 rfl) ?_
      refine lv_iload_n (pc := 35) hx hb dX12_fit_35 rfl (lv_at hl 1 rfl) ?_
      cases hf
    · replace hf := it_t c_25 hf
      refine lv_aload_n (pc := 28) hx hb dX12_fit_28 rfl (lv_at hl 0 rfl) ?_
      refine lv_iconst (pc := 29) (v := 2) hx hb dX12_fit_29 (by decide) ?_
      obtain ⟨r_30, v_trouble_30, v_where_30, hc_30, hf⟩ := bd3 hf
      refine r_dalVi (pc := 30) (ws' := (wX12_fit0 E h h_tape h_far h_from h_real h_other h_kept h_set h_book h_noteSort h_whose h_what h_noteIs h_fitting h_dawn h_likes h_walked h_came 0 v_trouble_30 v_where_30 v_read v_taped v_size v_at v_sort v_place v_sign v_number v_fault v_wrongAt v_word v_marks v_notes)) (As := [.int 2]) (rest := []) C (ctX12_refused l E h h_tape h_far h_from h_real h_other h_kept h_set h_real h_book h_noteSort h_whose h_what h_noteIs h_fitting h_dawn h_likes h_walked h_came 0 v_trouble v_where none v_read v_taped v_size v_at v_sort v_place v_sign v_number v_fault v_wrongAt v_word v_marks v_notes N 2 (r_30, v_trouble_30, v_where_30) hc_30) ml_X12_77 ⟨Nat.le_of_ble_eq_true rfl, Nat.le_of_ble_eq_true rfl⟩ hP hD hS 0 rfl rfl rfl [0] [1] 1 rfl rfl rfl rfl rfl rfl rfl hl.1 rfl (Nat.le_of_ble_eq_true rfl) ⟨Nat.zero_le _, Nat.zero_le _⟩ dX12_fit_30 ?_
      clear hP hD hS; intro H locs hP hD hS
      cases hf
      rw [hQ]
      exact r_iret C hr hP hD hS rfl dX12_fit_33
  · replace hf := it_t c_10 hf
    refine lv_aload_n (pc := 13) hx hb dX12_fit_13 rfl (lv_at hl 0 rfl) ?_
    refine lv_iconst (pc := 14) (v := 1) hx hb dX12_fit_14 (by decide) ?_
    obtain ⟨r_15, v_trouble_15, v_where_15, hc_15, hf⟩ := bd3 hf
    refine r_dalVi (pc := 15) (ws' := (wX12_fit0 E h h_tape h_far h_from h_real h_other h_kept h_set h_book h_noteSort h_whose h_what h_noteIs h_fitting h_dawn h_likes h_walked h_came 0 v_trouble_15 v_where_15 v_read v_taped v_size v_at v_sort v_place v_sign v_number v_fault v_wrongAt v_word v_marks v_notes)) (As := [.int 1]) (rest := []) C (ctX12_refused l E h h_tape h_far h_from h_real h_other h_kept h_set h_real h_book h_noteSort h_whose h_what h_noteIs h_fitting h_dawn h_likes h_walked h_came 0 v_trouble v_where none v_read v_taped v_size v_at v_sort v_place v_sign v_number v_fault v_wrongAt v_word v_marks v_notes N 1 (r_15, v_trouble_15, v_where_15) hc_15) ml_X12_77 ⟨Nat.le_of_ble_eq_true rfl, Nat.le_of_ble_eq_true rfl⟩ hP hD hS 0 rfl rfl rfl [0] [1] 1 rfl rfl rfl rfl rfl rfl rfl hl.1 rfl (Nat.le_of_ble_eq_true rfl) ⟨Nat.zero_le _, Nat.zero_le _⟩ dX12_fit_15 ?_
    clear hP hD hS; intro H locs hP hD hS
    cases hf
    rw [hQ]
    exact r_iret C hr hP hD hS rfl dX12_fit_18
def wX12_sure (E : EN) (h h_inn h_tape h_far h_from h_real h_other h_kept h_set h_book h_noteSort h_whose h_what h_noteIs h_fitting h_dawn h_likes h_walked h_came h_inn_creak h_inn_doorA h_inn_doorB h_inn_how h_inn_lies h_inn_isCold h_inn_falls h_inn_isFull h_inn_isTold h_inn_act h_inn_what h_inn_then h_inn_met h_inn_bed h_inn_dream h_inn_listens h_inn_name h_inn_nameSort h_inn_nameNumber : Nat) (v_thrown : Int32) (v_trouble : Int32) (v_where : Int32) (v_read : Option Nat) (v_taped : Int32) (v_size : Int32) (v_at : Int32) (v_sort : Int32) (v_place : Int32) (v_sign : Int32) (v_number : Int32) (v_fault : Int32) (v_wrongAt : Int32) (v_word : Int64) (v_marks : Int32) (v_notes : Int32) (v_inn_minutes : Int32) (v_inn_rooms : Int32) (v_inn_doors : Int32) (v_inn_things : Int32) (v_inn_dreams : Int32) (v_inn_sleepers : Int32) (v_inn_listeners : Int32) (v_inn_names : Int32) (v_other : Nat → Int32) (v_inn_how : Nat → Int32) (v_inn_lies : Nat → Int32) (v_inn_isFull : Nat → Int32) (v_inn_bed : Nat → Int32) (v_inn_isTold : Nat → Int32) (v_inn_act : Nat → Int32) (v_inn_then : Nat → Int32) (v_inn_what : Nat → Int32) (v_inn_doorA : Nat → Int32) (v_inn_doorB : Nat → Int32) (v_from : Nat → Int32) (v_inn_falls : Nat → Int32) (v_inn_creak : Nat → Int32) (v_inn_listens : Nat → Int32) (v_far : Nat → Int32) (v_inn_isCold : Nat → Int32) (v_inn_met : Nat → Int32) (v_fitting : Nat → Int32) (v_book : Nat → Int32) (v_noteSort : Nat → Int32) (v_whose : Nat → Int32) (v_what : Nat → Int32) (v_noteIs : Nat → Int32) : va_W := [(h, .inr (11, [.int v_thrown, .int v_trouble, .int v_where, .ref h_inn, va_rf v_read, .ref h_tape, .int v_taped, .int v_size, .int v_at, .int v_sort, .int v_place, .int v_sign, .int v_number, .int v_fault, .int v_wrongAt, .long v_word, .ref h_far, .ref h_from, .ref h_real, .ref h_other, .ref h_kept, .ref h_set, .ref h_real, .int v_marks, .int v_notes, .ref h_book, .ref h_noteSort, .ref h_whose, .ref h_what, .ref h_noteIs, .ref h_fitting, .ref h_dawn, .ref h_likes, .ref h_walked, .ref h_came])), (h_inn, .inr (10, [.int v_inn_minutes, .int v_inn_rooms, .int v_inn_doors, .int v_inn_things, .int v_inn_dreams, .int v_inn_sleepers, .int v_inn_listeners, .int v_inn_names, .ref h_inn_creak, .ref h_inn_doorA, .ref h_inn_doorB, .ref h_inn_how, .ref h_inn_lies, .ref h_inn_isCold, .ref h_inn_falls, .ref h_inn_isFull, .ref h_inn_isTold, .ref h_inn_act, .ref h_inn_what, .ref h_inn_then, .ref h_inn_met, .ref h_inn_bed, .ref h_inn_dream, .ref h_inn_listens, .ref h_inn_name, .ref h_inn_nameSort, .ref h_inn_nameNumber])), (h_other, aI E 51 v_other), (h_inn_how, aI E 10 v_inn_how), (h_inn_lies, aI E 4 v_inn_lies), (h_inn_isFull, aZ E 4 v_inn_isFull), (h_inn_bed, aI E 3 v_inn_bed), (h_inn_isTold, aZ E 16 v_inn_isTold), (h_inn_act, aI E 16 v_inn_act), (h_inn_then, aI E 16 v_inn_then), (h_inn_what, aI E 16 v_inn_what), (h_inn_doorA, aI E 10 v_inn_doorA), (h_inn_doorB, aI E 10 v_inn_doorB), (h_from, aI E 8 v_from), (h_inn_falls, aZ E 10 v_inn_falls), (h_inn_creak, aI E 8 v_inn_creak), (h_inn_listens, aI E 3 v_inn_listens), (h_far, aI E 64 v_far), (h_inn_isCold, aZ E 8 v_inn_isCold), (h_inn_met, aI E 16 v_inn_met), (h_fitting, aI E 64 v_fitting), (h_book, aI E 20 v_book), (h_noteSort, aI E 20 v_noteSort), (h_whose, aI E 20 v_whose), (h_what, aI E 20 v_what), (h_noteIs, aZ E 20 v_noteIs)]
def BX12_sure_51 (r_21 : Int32) (N : Nat) (r_44 : Int32) (v_other_21 : Nat → Int32) (v_from_21 : Nat → Int32) (v_fitting_21 : Nat → Int32) (p0 : Int32) (v_inn_dreams : Int32) (v_inn_sleepers : Int32) (rec51 : (Int32) → Option (Int32 × Int32 × Int32 × Int32 × (Nat → Int32) × (Nat → Int32) × (Nat → Int32))) : (Int32) → Option (Int32 × Int32 × Int32 × Int32 × (Nat → Int32) × (Nat → Int32) × (Nat → Int32)) := un1 fun (x51_4 : Int32) => if r_21 ≤ x51_4 then ((fX12_good N r_44).bind (un3 fun (r_88 : Int32) (v_trouble_88 : Int32) (v_where_88 : Int32) => some (r_88, 0, v_trouble_88, v_where_88, v_other_21, v_from_21, v_fitting_21))) else (gd x51_4 64 ((fX12_dreamIn N (v_fitting_21 x51_4.toNatClampNeg) p0 v_inn_dreams v_inn_sleepers).bind (un1 fun (r_66 : Int32) => if r_66 = r_44 then (rec51 (x51_4 + 1)) else ((fX12_good N (-2)).bind (un3 fun (r_76 : Int32) (v_trouble_76 : Int32) (v_where_76 : Int32) => some (r_76, 0, v_trouble_76, v_where_76, v_other_21, v_from_21, v_fitting_21))))))
def fX12_sure (N : Nat) (p0 : Int32) (v_notes : Int32) (v_inn_minutes : Int32) (v_inn_rooms : Int32) (v_inn_doors : Int32) (v_inn_things : Int32) (v_inn_dreams : Int32) (v_inn_sleepers : Int32) (v_inn_listeners : Int32) (v_other : Nat → Int32) (v_inn_how : Nat → Int32) (v_inn_lies : Nat → Int32) (v_inn_isFull : Nat → Int32) (v_inn_bed : Nat → Int32) (v_inn_isTold : Nat → Int32) (v_inn_act : Nat → Int32) (v_inn_then : Nat → Int32) (v_inn_what : Nat → Int32) (v_inn_doorA : Nat → Int32) (v_inn_doorB : Nat → Int32) (v_from : Nat → Int32) (v_inn_falls : Nat → Int32) (v_inn_creak : Nat → Int32) (v_inn_listens : Nat → Int32) (v_far : Nat → Int32) (v_inn_isCold : Nat → Int32) (v_inn_met : Nat → Int32) (v_fitting : Nat → Int32) (v_book : Nat → Int32) (v_noteSort : Nat → Int32) (v_whose : Nat → Int32) (v_what : Nat → Int32) (v_noteIs : Nat → Int32) : Option (Int32 × Int32 × Int32 × Int32 × (Nat → Int32) × (Nat → Int32) × (Nat → Int32)) := (fX12_isSleeper N p0 v_inn_sleepers).bind (un1 fun (r_7 : Int32) => if r_7 = 0 then ((fX12_refused N 1).bind (un3 fun (r_15 : Int32) (v_trouble_15 : Int32) (v_where_15 : Int32) => some (r_15, 0, v_trouble_15, v_where_15, v_other, v_from, v_fitting))) else ((fX12_fitsBy N 3 v_notes v_inn_minutes v_inn_rooms v_inn_doors v_inn_things v_inn_dreams v_inn_sleepers v_inn_listeners v_other v_inn_how v_inn_lies v_inn_isFull v_inn_bed v_inn_isTold v_inn_act v_inn_then v_inn_what v_inn_doorA v_inn_doorB v_from v_inn_falls v_inn_creak v_inn_listens v_far v_inn_isCold v_inn_met v_fitting v_book v_noteSort v_whose v_what v_noteIs).bind (un4 fun (r_21 : Int32) (v_other_21 : Nat → Int32) (v_from_21 : Nat → Int32) (v_fitting_21 : Nat → Int32) => if r_21 = 0 then ((fX12_refused N 6).bind (un3 fun (r_32 : Int32) (v_trouble_32 : Int32) (v_where_32 : Int32) => some (r_32, 0, v_trouble_32, v_where_32, v_other_21, v_from_21, v_fitting_21))) else (gd 0 64 ((fX12_dreamIn N (v_fitting_21 (0 : Int32).toNatClampNeg) p0 v_inn_dreams v_inn_sleepers).bind (un1 fun (r_44 : Int32) => lp (BX12_sure_51 r_21 N r_44 v_other_21 v_from_21 v_fitting_21 p0 v_inn_dreams v_inn_sleepers) N 1))))))
set_option maxHeartbeats 4000000 in
set_option maxRecDepth 100000 in
theorem ctX12_sure (l : Launch) (E : EN) (h h_inn h_tape h_far h_from h_real h_other h_kept h_set h_book h_noteSort h_whose h_what h_noteIs h_fitting h_dawn h_likes h_walked h_came h_inn_creak h_inn_doorA h_inn_doorB h_inn_how h_inn_lies h_inn_isCold h_inn_falls h_inn_isFull h_inn_isTold h_inn_act h_inn_what h_inn_then h_inn_met h_inn_bed h_inn_dream h_inn_listens h_inn_name h_inn_nameSort h_inn_nameNumber : Nat) (v_thrown : Int32) (v_trouble : Int32) (v_where : Int32) (v_read : Option Nat) (v_taped : Int32) (v_size : Int32) (v_at : Int32) (v_sort : Int32) (v_place : Int32) (v_sign : Int32) (v_number : Int32) (v_fault : Int32) (v_wrongAt : Int32) (v_word : Int64) (v_marks : Int32) (v_notes : Int32) (v_inn_minutes : Int32) (v_inn_rooms : Int32) (v_inn_doors : Int32) (v_inn_things : Int32) (v_inn_dreams : Int32) (v_inn_sleepers : Int32) (v_inn_listeners : Int32) (v_inn_names : Int32) (v_other : Nat → Int32) (v_inn_how : Nat → Int32) (v_inn_lies : Nat → Int32) (v_inn_isFull : Nat → Int32) (v_inn_bed : Nat → Int32) (v_inn_isTold : Nat → Int32) (v_inn_act : Nat → Int32) (v_inn_then : Nat → Int32) (v_inn_what : Nat → Int32) (v_inn_doorA : Nat → Int32) (v_inn_doorB : Nat → Int32) (v_from : Nat → Int32) (v_inn_falls : Nat → Int32) (v_inn_creak : Nat → Int32) (v_inn_listens : Nat → Int32) (v_far : Nat → Int32) (v_inn_isCold : Nat → Int32) (v_inn_met : Nat → Int32) (v_fitting : Nat → Int32) (v_book : Nat → Int32) (v_noteSort : Nat → Int32) (v_whose : Nat → Int32) (v_what : Nat → Int32) (v_noteIs : Nat → Int32) (N : Nat) (p0 : Int32) (z : Int32 × Int32 × Int32 × Int32 × (Nat → Int32) × (Nat → Int32) × (Nat → Int32)) (hf : fX12_sure N p0 v_notes v_inn_minutes v_inn_rooms v_inn_doors v_inn_things v_inn_dreams v_inn_sleepers v_inn_listeners v_other v_inn_how v_inn_lies v_inn_isFull v_inn_bed v_inn_isTold v_inn_act v_inn_then v_inn_what v_inn_doorA v_inn_doorB v_from v_inn_falls v_inn_creak v_inn_listens v_far v_inn_isCold v_inn_met v_fitting v_book v_noteSort v_whose v_what v_noteIs = some z) : CTi l E yX12_sure cX12_sure 5 .int 8 185 [.ref h, .int p0] (wX12_sure E h h_inn h_tape h_far h_from h_real h_other h_kept h_set h_book h_noteSort h_whose h_what h_noteIs h_fitting h_dawn h_likes h_walked h_came h_inn_creak h_inn_doorA h_inn_doorB h_inn_how h_inn_lies h_inn_isCold h_inn_falls h_inn_isFull h_inn_isTold h_inn_act h_inn_what h_inn_then h_inn_met h_inn_bed h_inn_dream h_inn_listens h_inn_name h_inn_nameSort h_inn_nameNumber v_thrown v_trouble v_where v_read v_taped v_size v_at v_sort v_place v_sign v_number v_fault v_wrongAt v_word v_marks v_notes v_inn_minutes v_inn_rooms v_inn_doors v_inn_things v_inn_dreams v_inn_sleepers v_inn_listeners v_inn_names v_other v_inn_how v_inn_lies v_inn_isFull v_inn_bed v_inn_isTold v_inn_act v_inn_then v_inn_what v_inn_doorA v_inn_doorB v_from v_inn_falls v_inn_creak v_inn_listens v_far v_inn_isCold v_inn_met v_fitting v_book v_noteSort v_whose v_what v_noteIs) (z.1) (wX12_sure E h h_inn h_tape h_far h_from h_real h_other h_kept h_set h_book h_noteSort h_whose h_what h_noteIs h_fitting h_dawn h_likes h_walked h_came h_inn_creak h_inn_doorA h_inn_doorB h_inn_how h_inn_lies h_inn_isCold h_inn_falls h_inn_isFull h_inn_isTold h_inn_act h_inn_what h_inn_then h_inn_met h_inn_bed h_inn_dream h_inn_listens h_inn_name h_inn_nameSort h_inn_nameNumber z.2.1 z.2.2.1 z.2.2.2.1 v_read v_taped v_size v_at v_sort v_place v_sign v_number v_fault v_wrongAt v_word v_marks v_notes v_inn_minutes v_inn_rooms v_inn_doors v_inn_things v_inn_dreams v_inn_sleepers v_inn_listeners v_inn_names z.2.2.2.2.1 v_inn_how v_inn_lies v_inn_isFull v_inn_bed v_inn_isTold v_inn_act v_inn_then v_inn_what v_inn_doorA v_inn_doorB z.2.2.2.2.2.1 v_inn_falls v_inn_creak v_inn_listens v_far v_inn_isCold v_inn_met z.2.2.2.2.2.2 v_book v_noteSort v_whose v_what v_noteIs) := by
  intro sz
  refine ct_body (by decide) (Nat.le_of_ble_eq_true rfl) ?_
  intro p e s m args below meth c A ls hAe C hr hin hP hD hS hl
  have C : CX p s m args meth c cX12_sure RX12 5 E A := C
  have hl : lv_has ls 5 [(0, .ref h), (1, .int p0)] := hl
  have hx := C.1
  have hb := C.2.1
  rw [hAe]
  clear hAe
  obtain ⟨Q, hQ⟩ : ∃ Q, Q = MQ below (Qi E A (z.1) (wX12_sure E h h_inn h_tape h_far h_from h_real h_other h_kept h_set h_book h_noteSort h_whose h_what h_noteIs h_fitting h_dawn h_likes h_walked h_came h_inn_creak h_inn_doorA h_inn_doorB h_inn_how h_inn_lies h_inn_isCold h_inn_falls h_inn_isFull h_inn_isTold h_inn_act h_inn_what h_inn_then h_inn_met h_inn_bed h_inn_dream h_inn_listens h_inn_name h_inn_nameSort h_inn_nameNumber z.2.1 z.2.2.1 z.2.2.2.1 v_read v_taped v_size v_at v_sort v_place v_sign v_number v_fault v_wrongAt v_word v_marks v_notes v_inn_minutes v_inn_rooms v_inn_doors v_inn_things v_inn_dreams v_inn_sleepers v_inn_listeners v_inn_names z.2.2.2.2.1 v_inn_how v_inn_lies v_inn_isFull v_inn_bed v_inn_isTold v_inn_act v_inn_then v_inn_what v_inn_doorA v_inn_doorB z.2.2.2.2.2.1 v_inn_falls v_inn_creak v_inn_listens v_far v_inn_isCold v_inn_met z.2.2.2.2.2.2 v_book v_noteSort v_whose v_what v_noteIs)) args s 0 0 A := ⟨_, rfl⟩
  rw [← hQ]
  unfold fX12_sure at hf
  refine lv_aload_n (pc := 0) hx hb dX12_sure_0 rfl (lv_at hl 0 rfl) ?_
  refine lv_iconst (pc := 1) (v := 0) hx hb dX12_sure_1 (by decide) ?_
  refine r_put (pc := 2) (ws' := (wX12_sure E h h_inn h_tape h_far h_from h_real h_other h_kept h_set h_book h_noteSort h_whose h_what h_noteIs h_fitting h_dawn h_likes h_walked h_came h_inn_creak h_inn_doorA h_inn_doorB h_inn_how h_inn_lies h_inn_isCold h_inn_falls h_inn_isFull h_inn_isTold h_inn_act h_inn_what h_inn_then h_inn_met h_inn_bed h_inn_dream h_inn_listens h_inn_name h_inn_nameSort h_inn_nameNumber 0 v_trouble v_where v_read v_taped v_size v_at v_sort v_place v_sign v_number v_fault v_wrongAt v_word v_marks v_notes v_inn_minutes v_inn_rooms v_inn_doors v_inn_things v_inn_dreams v_inn_sleepers v_inn_listeners v_inn_names v_other v_inn_how v_inn_lies v_inn_isFull v_inn_bed v_inn_isTold v_inn_act v_inn_then v_inn_what v_inn_doorA v_inn_doorB v_from v_inn_falls v_inn_creak v_inn_listens v_far v_inn_isCold v_inn_met v_fitting v_book v_noteSort v_whose v_what v_noteIs)) C hP hD hS 0 rfl fl_X12_71 rfl rfl (Nat.le_of_ble_eq_true rfl) rfl dX12_sure_2 ?_
  clear hP hD hS; intro H locs hP hD hS
  refine lv_aload_n (pc := 5) hx hb dX12_sure_5 rfl (lv_at hl 0 rfl) ?_
  refine lv_iload_n (pc := 6) hx hb dX12_sure_6 rfl (lv_at hl 1 rfl) ?_
  obtain ⟨r_7, hc_7, hf⟩ := bd1 hf
  refine r_dalVi (pc := 7) (ws' := (wX12_sure E h h_inn h_tape h_far h_from h_real h_other h_kept h_set h_book h_noteSort h_whose h_what h_noteIs h_fitting h_dawn h_likes h_walked h_came h_inn_creak h_inn_doorA h_inn_doorB h_inn_how h_inn_lies h_inn_isCold h_inn_falls h_inn_isFull h_inn_isTold h_inn_act h_inn_what h_inn_then h_inn_met h_inn_bed h_inn_dream h_inn_listens h_inn_name h_inn_nameSort h_inn_nameNumber 0 v_trouble v_where v_read v_taped v_size v_at v_sort v_place v_sign v_number v_fault v_wrongAt v_word v_marks v_notes v_inn_minutes v_inn_rooms v_inn_doors v_inn_things v_inn_dreams v_inn_sleepers v_inn_listeners v_inn_names v_other v_inn_how v_inn_lies v_inn_isFull v_inn_bed v_inn_isTold v_inn_act v_inn_then v_inn_what v_inn_doorA v_inn_doorB v_from v_inn_falls v_inn_creak v_inn_listens v_far v_inn_isCold v_inn_met v_fitting v_book v_noteSort v_whose v_what v_noteIs)) (As := [.int p0]) (rest := []) C (ctX12_isSleeper l E h h_inn h_tape h_far h_from h_real h_other h_kept h_set h_real h_book h_noteSort h_whose h_what h_noteIs h_fitting h_dawn h_likes h_walked h_came h_inn_creak h_inn_doorA h_inn_doorB h_inn_how h_inn_lies h_inn_isCold h_inn_falls h_inn_isFull h_inn_isTold h_inn_act h_inn_what h_inn_then h_inn_met h_inn_bed h_inn_dream h_inn_listens h_inn_name h_inn_nameSort h_inn_nameNumber 0 v_trouble v_where v_read v_taped v_size v_at v_sort v_place v_sign v_number v_fault v_wrongAt v_word v_marks v_notes v_inn_minutes v_inn_rooms v_inn_doors v_inn_things v_inn_dreams v_inn_sleepers v_inn_listeners v_inn_names N p0 r_7 hc_7) ml_X12_421 ⟨Nat.le_of_ble_eq_true rfl, Nat.le_of_ble_eq_true rfl⟩ hP hD hS 0 rfl rfl rfl [0, 1] [26, 27, 2, 3, 4, 5, 6, 7, 8, 9, 10, 11, 12, 13, 14, 15, 16, 17, 18, 19, 20, 21, 22, 23, 24, 25] 26 rfl rfl rfl rfl rfl rfl rfl hl.1 rfl (Nat.le_of_ble_eq_true rfl) ⟨Nat.zero_le _, Nat.zero_le _⟩ dX12_sure_7 ?_
  clear hP hD hS; intro H locs hP hD hS
  refine lv_if_ne (pc := 10) (tgt := 19) hx hb dX12_sure_10 (by decide) (fun c_10 => ?_) (fun c_10 => ?_)
  · replace hf := it_f c_10 hf
    refine lv_aload_n (pc := 19) hx hb dX12_sure_19 rfl (lv_at hl 0 rfl) ?_
    refine lv_iconst (pc := 20) (v := 3) hx hb dX12_sure_20 (by decide) ?_
    obtain ⟨r_21, v_other_21, v_from_21, v_fitting_21, hc_21, hf⟩ := bd4 hf
    refine r_dalVi (pc := 21) (ws' := (wX12_sure E h h_inn h_tape h_far h_from h_real h_other h_kept h_set h_book h_noteSort h_whose h_what h_noteIs h_fitting h_dawn h_likes h_walked h_came h_inn_creak h_inn_doorA h_inn_doorB h_inn_how h_inn_lies h_inn_isCold h_inn_falls h_inn_isFull h_inn_isTold h_inn_act h_inn_what h_inn_then h_inn_met h_inn_bed h_inn_dream h_inn_listens h_inn_name h_inn_nameSort h_inn_nameNumber 0 v_trouble v_where v_read v_taped v_size v_at v_sort v_place v_sign v_number v_fault v_wrongAt v_word v_marks v_notes v_inn_minutes v_inn_rooms v_inn_doors v_inn_things v_inn_dreams v_inn_sleepers v_inn_listeners v_inn_names v_other_21 v_inn_how v_inn_lies v_inn_isFull v_inn_bed v_inn_isTold v_inn_act v_inn_then v_inn_what v_inn_doorA v_inn_doorB v_from_21 v_inn_falls v_inn_creak v_inn_listens v_far v_inn_isCold v_inn_met v_fitting_21 v_book v_noteSort v_whose v_what v_noteIs)) (As := [.int 3]) (rest := []) C (ctX12_fitsBy l E h h_inn h_tape h_far h_from h_real h_other h_kept h_set h_book h_noteSort h_whose h_what h_noteIs h_fitting h_dawn h_likes h_walked h_came h_inn_creak h_inn_doorA h_inn_doorB h_inn_how h_inn_lies h_inn_isCold h_inn_falls h_inn_isFull h_inn_isTold h_inn_act h_inn_what h_inn_then h_inn_met h_inn_bed h_inn_dream h_inn_listens h_inn_name h_inn_nameSort h_inn_nameNumber 0 v_trouble v_where v_read v_taped v_size v_at v_sort v_place v_sign v_number v_fault v_wrongAt v_word v_marks v_notes v_inn_minutes v_inn_rooms v_inn_doors v_inn_things v_inn_dreams v_inn_sleepers v_inn_listeners v_inn_names v_other v_inn_how v_inn_lies v_inn_isFull v_inn_bed v_inn_isTold v_inn_act v_inn_then v_inn_what v_inn_doorA v_inn_doorB v_from v_inn_falls v_inn_creak v_inn_listens v_far v_inn_isCold v_inn_met v_fitting v_book v_noteSort v_whose v_what v_noteIs N 3 (r_21, v_other_21, v_from_21, v_fitting_21) hc_21) ml_X12_464 ⟨Nat.le_of_ble_eq_true rfl, Nat.le_of_ble_eq_true rfl⟩ hP hD hS 0 rfl rfl rfl [0, 1, 2, 3, 4, 5, 6, 7, 8, 9, 10, 11, 12, 13, 14, 15, 16, 17, 18, 19, 20, 21, 22, 23, 24, 25] [26, 27, 28, 29, 30, 31, 32, 33, 34, 35, 36, 37, 38, 39, 40, 41, 42, 43, 44, 45, 46, 47, 48, 49, 50, 51] 26 rfl rfl rfl rfl rfl rfl rfl hl.1 rfl (Nat.le_of_ble_eq_true rfl) ⟨Nat.zero_le _, Nat.zero_le _⟩ dX12_sure_21 ?_
    clear hP hD hS; intro H locs hP hD hS
    refine lv_istore_n (pc := 24) (lv' := [(2, .int r_21), (0, .ref h), (1, .int p0)]) hx hb dX12_sure_24 rfl hl (by decide) rfl (fun ls hl => ?_)
    refine lv_iload_n (pc := 25) hx hb dX12_sure_25 rfl (lv_at hl 0 rfl) ?_
    refine lv_if_ne (pc := 26) (tgt := 36) hx hb dX12_sure_26 (by decide) (fun c_26 => ?_) (fun c_26 => ?_)
    · replace hf := it_f c_26 hf
      refine lv_aload_n (pc := 36) hx hb dX12_sure_36 rfl (lv_at hl 1 rfl) ?_
      refine lv_aload_n (pc := 37) hx hb dX12_sure_37 rfl (lv_at hl 1 rfl) ?_
      refine r_get (pc := 38) C hP 0 rfl fl_X12_55 rfl dX12_sure_38 ?_
      refine lv_iconst (pc := 41) (v := 0) hx hb dX12_sure_41 (by decide) ?_
      obtain ⟨hi_42, hf⟩ := gd_s hf
      refine r_iald (pc := 42) C hP 20 rfl hi_42 dX12_sure_42 ?_
      refine lv_iload_n (pc := 43) hx hb dX12_sure_43 rfl (lv_at hl 2 rfl) ?_
      obtain ⟨r_44, hc_44, hf⟩ := bd1 hf
      refine r_dalVi (pc := 44) (ws' := (wX12_sure E h h_inn h_tape h_far h_from h_real h_other h_kept h_set h_book h_noteSort h_whose h_what h_noteIs h_fitting h_dawn h_likes h_walked h_came h_inn_creak h_inn_doorA h_inn_doorB h_inn_how h_inn_lies h_inn_isCold h_inn_falls h_inn_isFull h_inn_isTold h_inn_act h_inn_what h_inn_then h_inn_met h_inn_bed h_inn_dream h_inn_listens h_inn_name h_inn_nameSort h_inn_nameNumber 0 v_trouble v_where v_read v_taped v_size v_at v_sort v_place v_sign v_number v_fault v_wrongAt v_word v_marks v_notes v_inn_minutes v_inn_rooms v_inn_doors v_inn_things v_inn_dreams v_inn_sleepers v_inn_listeners v_inn_names v_other_21 v_inn_how v_inn_lies v_inn_isFull v_inn_bed v_inn_isTold v_inn_act v_inn_then v_inn_what v_inn_doorA v_inn_doorB v_from_21 v_inn_falls v_inn_creak v_inn_listens v_far v_inn_isCold v_inn_met v_fitting_21 v_book v_noteSort v_whose v_what v_noteIs)) (As := [.int (v_fitting_21 (0 : Int32).toNatClampNeg), .int p0]) (rest := []) C (ctX12_dreamIn l E h h_inn h_tape h_far h_from h_real h_other h_kept h_set h_real h_book h_noteSort h_whose h_what h_noteIs h_fitting h_dawn h_likes h_walked h_came h_inn_creak h_inn_doorA h_inn_doorB h_inn_how h_inn_lies h_inn_isCold h_inn_falls h_inn_isFull h_inn_isTold h_inn_act h_inn_what h_inn_then h_inn_met h_inn_bed h_inn_dream h_inn_listens h_inn_name h_inn_nameSort h_inn_nameNumber 0 v_trouble v_where v_read v_taped v_size v_at v_sort v_place v_sign v_number v_fault v_wrongAt v_word v_marks v_notes v_inn_minutes v_inn_rooms v_inn_doors v_inn_things v_inn_dreams v_inn_sleepers v_inn_listeners v_inn_names N (v_fitting_21 (0 : Int32).toNatClampNeg) p0 r_44 hc_44) ml_X12_467 ⟨Nat.le_of_ble_eq_true rfl, Nat.le_of_ble_eq_true rfl⟩ hP hD hS 0 rfl rfl rfl [0, 1] [26, 27, 2, 3, 4, 5, 6, 7, 8, 9, 10, 11, 12, 13, 14, 15, 16, 17, 18, 19, 20, 21, 22, 23, 24, 25] 26 rfl rfl rfl rfl rfl rfl rfl hl.1 rfl (Nat.le_of_ble_eq_true rfl) ⟨Nat.zero_le _, Nat.zero_le _⟩ dX12_sure_44 ?_
      clear hP hD hS; intro H locs hP hD hS
      refine lv_istore_n (pc := 47) (lv' := [(3, .int r_44), (2, .int r_21), (0, .ref h), (1, .int p0)]) hx hb dX12_sure_47 rfl hl (by decide) rfl (fun ls hl => ?_)
      refine lv_iconst (pc := 48) (v := 1) hx hb dX12_sure_48 (by decide) ?_
      refine lv_istore (pc := 49) (lv' := [(4, .int 1), (3, .int r_44), (2, .int r_21), (0, .ref h), (1, .int p0)]) hx hb dX12_sure_49 hl (by decide) rfl (fun ls hl => ?_)
      have key51 : ∀ (n : Nat) (x51_4 : Int32) , lp (BX12_sure_51 r_21 N r_44 v_other_21 v_from_21 v_fitting_21 p0 v_inn_dreams v_inn_sleepers) n x51_4 = some z → AT p l e (rmOf 8 185) s m args below meth c E A Q 0 0 5 [(0, .ref h), (1, .int p0), (2, .int r_21), (3, .int r_44), (4, .int x51_4)] (wX12_sure E h h_inn h_tape h_far h_from h_real h_other h_kept h_set h_book h_noteSort h_whose h_what h_noteIs h_fitting h_dawn h_likes h_walked h_came h_inn_creak h_inn_doorA h_inn_doorB h_inn_how h_inn_lies h_inn_isCold h_inn_falls h_inn_isFull h_inn_isTold h_inn_act h_inn_what h_inn_then h_inn_met h_inn_bed h_inn_dream h_inn_listens h_inn_name h_inn_nameSort h_inn_nameNumber 0 v_trouble v_where v_read v_taped v_size v_at v_sort v_place v_sign v_number v_fault v_wrongAt v_word v_marks v_notes v_inn_minutes v_inn_rooms v_inn_doors v_inn_things v_inn_dreams v_inn_sleepers v_inn_listeners v_inn_names v_other_21 v_inn_how v_inn_lies v_inn_isFull v_inn_bed v_inn_isTold v_inn_act v_inn_then v_inn_what v_inn_doorA v_inn_doorB v_from_21 v_inn_falls v_inn_creak v_inn_listens v_far v_inn_isCold v_inn_met v_fitting_21 v_book v_noteSort v_whose v_what v_noteIs) 51 [] := by
        intro n
        induction n with
        | zero => intro x51_4 hf; exact (lp_0 hf).elim
        | succ n ih51 =>
          intro x51_4 hf H locs ls hl hP hD hS
          replace hf := lp_s hf
          generalize lp (BX12_sure_51 r_21 N r_44 v_other_21 v_from_21 v_fitting_21 p0 v_inn_dreams v_inn_sleepers) n = rec51 at ih51 hf
          unfold BX12_sure_51 at hf
          replace hf := un1_s hf
          refine lv_iload (pc := 51) hx hb dX12_sure_51 (lv_at hl 4 rfl) ?_
          refine lv_iload_n (pc := 53) hx hb dX12_sure_53 rfl (lv_at hl 2 rfl) ?_
          refine lv_icmp_ge (pc := 54) (tgt := 86) hx hb dX12_sure_54 (by decide) (fun c_54 => ?_) (fun c_54 => ?_)
          · replace hf := it_t c_54 hf
            refine lv_aload_n (pc := 86) hx hb dX12_sure_86 rfl (lv_at hl 0 rfl) ?_
            refine lv_iload_n (pc := 87) hx hb dX12_sure_87 rfl (lv_at hl 3 rfl) ?_
            obtain ⟨r_88, v_trouble_88, v_where_88, hc_88, hf⟩ := bd3 hf
            refine r_dalVi (pc := 88) (ws' := (wX12_sure E h h_inn h_tape h_far h_from h_real h_other h_kept h_set h_book h_noteSort h_whose h_what h_noteIs h_fitting h_dawn h_likes h_walked h_came h_inn_creak h_inn_doorA h_inn_doorB h_inn_how h_inn_lies h_inn_isCold h_inn_falls h_inn_isFull h_inn_isTold h_inn_act h_inn_what h_inn_then h_inn_met h_inn_bed h_inn_dream h_inn_listens h_inn_name h_inn_nameSort h_inn_nameNumber 0 v_trouble_88 v_where_88 v_read v_taped v_size v_at v_sort v_place v_sign v_number v_fault v_wrongAt v_word v_marks v_notes v_inn_minutes v_inn_rooms v_inn_doors v_inn_things v_inn_dreams v_inn_sleepers v_inn_listeners v_inn_names v_other_21 v_inn_how v_inn_lies v_inn_isFull v_inn_bed v_inn_isTold v_inn_act v_inn_then v_inn_what v_inn_doorA v_inn_doorB v_from_21 v_inn_falls v_inn_creak v_inn_listens v_far v_inn_isCold v_inn_met v_fitting_21 v_book v_noteSort v_whose v_what v_noteIs)) (As := [.int r_44]) (rest := []) C (ctX12_good l E h h_tape h_far h_from h_real h_other h_kept h_set h_real h_book h_noteSort h_whose h_what h_noteIs h_fitting h_dawn h_likes h_walked h_came 0 v_trouble v_where (some h_inn) v_read v_taped v_size v_at v_sort v_place v_sign v_number v_fault v_wrongAt v_word v_marks v_notes N r_44 (r_88, v_trouble_88, v_where_88) hc_88) ml_X12_81 ⟨Nat.le_of_ble_eq_true rfl, Nat.le_of_ble_eq_true rfl⟩ hP hD hS 0 rfl rfl rfl [0] [26, 1, 2, 3, 4, 5, 6, 7, 8, 9, 10, 11, 12, 13, 14, 15, 16, 17, 18, 19, 20, 21, 22, 23, 24, 25] 26 rfl rfl rfl rfl rfl rfl rfl hl.1 rfl (Nat.le_of_ble_eq_true rfl) ⟨Nat.zero_le _, Nat.zero_le _⟩ dX12_sure_88 ?_
            clear hP hD hS; intro H locs hP hD hS
            cases hf
            rw [hQ]
            exact r_iret C hr hP hD hS rfl dX12_sure_91
          · replace hf := it_f c_54 hf
            refine lv_aload_n (pc := 57) hx hb dX12_sure_57 rfl (lv_at hl 0 rfl) ?_
            refine lv_aload_n (pc := 58) hx hb dX12_sure_58 rfl (lv_at hl 0 rfl) ?_
            refine r_get (pc := 59) C hP 0 rfl fl_X12_55 rfl dX12_sure_59 ?_
            refine lv_iload (pc := 62) hx hb dX12_sure_62 (lv_at hl 4 rfl) ?_
            obtain ⟨hi_64, hf⟩ := gd_s hf
            refine r_iald (pc := 64) C hP 20 rfl hi_64 dX12_sure_64 ?_
            refine lv_iload_n (pc := 65) hx hb dX12_sure_65 rfl (lv_at hl 1 rfl) ?_
            obtain ⟨r_66, hc_66, hf⟩ := bd1 hf
            refine r_dalVi (pc := 66) (ws' := (wX12_sure E h h_inn h_tape h_far h_from h_real h_other h_kept h_set h_book h_noteSort h_whose h_what h_noteIs h_fitting h_dawn h_likes h_walked h_came h_inn_creak h_inn_doorA h_inn_doorB h_inn_how h_inn_lies h_inn_isCold h_inn_falls h_inn_isFull h_inn_isTold h_inn_act h_inn_what h_inn_then h_inn_met h_inn_bed h_inn_dream h_inn_listens h_inn_name h_inn_nameSort h_inn_nameNumber 0 v_trouble v_where v_read v_taped v_size v_at v_sort v_place v_sign v_number v_fault v_wrongAt v_word v_marks v_notes v_inn_minutes v_inn_rooms v_inn_doors v_inn_things v_inn_dreams v_inn_sleepers v_inn_listeners v_inn_names v_other_21 v_inn_how v_inn_lies v_inn_isFull v_inn_bed v_inn_isTold v_inn_act v_inn_then v_inn_what v_inn_doorA v_inn_doorB v_from_21 v_inn_falls v_inn_creak v_inn_listens v_far v_inn_isCold v_inn_met v_fitting_21 v_book v_noteSort v_whose v_what v_noteIs)) (As := [.int (v_fitting_21 x51_4.toNatClampNeg), .int p0]) (rest := []) C (ctX12_dreamIn l E h h_inn h_tape h_far h_from h_real h_other h_kept h_set h_real h_book h_noteSort h_whose h_what h_noteIs h_fitting h_dawn h_likes h_walked h_came h_inn_creak h_inn_doorA h_inn_doorB h_inn_how h_inn_lies h_inn_isCold h_inn_falls h_inn_isFull h_inn_isTold h_inn_act h_inn_what h_inn_then h_inn_met h_inn_bed h_inn_dream h_inn_listens h_inn_name h_inn_nameSort h_inn_nameNumber 0 v_trouble v_where v_read v_taped v_size v_at v_sort v_place v_sign v_number v_fault v_wrongAt v_word v_marks v_notes v_inn_minutes v_inn_rooms v_inn_doors v_inn_things v_inn_dreams v_inn_sleepers v_inn_listeners v_inn_names N (v_fitting_21 x51_4.toNatClampNeg) p0 r_66 hc_66) ml_X12_467 ⟨Nat.le_of_ble_eq_true rfl, Nat.le_of_ble_eq_true rfl⟩ hP hD hS 0 rfl rfl rfl [0, 1] [26, 27, 2, 3, 4, 5, 6, 7, 8, 9, 10, 11, 12, 13, 14, 15, 16, 17, 18, 19, 20, 21, 22, 23, 24, 25] 26 rfl rfl rfl rfl rfl rfl rfl hl.1 rfl (Nat.le_of_ble_eq_true rfl) ⟨Nat.zero_le _, Nat.zero_le _⟩ dX12_sure_66 ?_
            clear hP hD hS; intro H locs hP hD hS
            refine lv_iload_n (pc := 69) hx hb dX12_sure_69 rfl (lv_at hl 3 rfl) ?_
            refine lv_icmp_eq (pc := 70) (tgt := 80) hx hb dX12_sure_70 (by decide) (fun c_70 => ?_) (fun c_70 => ?_)
            · replace hf := it_t c_70 hf
              refine lv_iinc (pc := 80) (v := x51_4 + 1) (lv' := [(4, .int (x51_4 + 1)), (0, .ref h), (1, .int p0), (2, .int r_21), (3, .int r_44)]) hx hb dX12_sure_80 hl (k := 4) rfl rfl (by decide) rfl (fun ls hl => ?_)
              refine lv_goto (pc := 83) (tgt := 51) hx hb dX12_sure_83 (by decide) ?_
              exact ih51 (x51_4 + 1) hf _ _ _ (lv_sub hl [1, 2, 3, 4, 0] rfl) hP hD hS
            · replace hf := it_f c_70 hf
              refine lv_aload_n (pc := 73) hx hb dX12_sure_73 rfl (lv_at hl 0 rfl) ?_
              refine lv_bipush (pc := 74) (v := (-2)) hx hb dX12_sure_74 (by decide) ?_
              obtain ⟨r_76, v_trouble_76, v_where_76, hc_76, hf⟩ := bd3 hf
              refine r_dalVi (pc := 76) (ws' := (wX12_sure E h h_inn h_tape h_far h_from h_real h_other h_kept h_set h_book h_noteSort h_whose h_what h_noteIs h_fitting h_dawn h_likes h_walked h_came h_inn_creak h_inn_doorA h_inn_doorB h_inn_how h_inn_lies h_inn_isCold h_inn_falls h_inn_isFull h_inn_isTold h_inn_act h_inn_what h_inn_then h_inn_met h_inn_bed h_inn_dream h_inn_listens h_inn_name h_inn_nameSort h_inn_nameNumber 0 v_trouble_76 v_where_76 v_read v_taped v_size v_at v_sort v_place v_sign v_number v_fault v_wrongAt v_word v_marks v_notes v_inn_minutes v_inn_rooms v_inn_doors v_inn_things v_inn_dreams v_inn_sleepers v_inn_listeners v_inn_names v_other_21 v_inn_how v_inn_lies v_inn_isFull v_inn_bed v_inn_isTold v_inn_act v_inn_then v_inn_what v_inn_doorA v_inn_doorB v_from_21 v_inn_falls v_inn_creak v_inn_listens v_far v_inn_isCold v_inn_met v_fitting_21 v_book v_noteSort v_whose v_what v_noteIs)) (As := [.int (-2)]) (rest := []) C (ctX12_good l E h h_tape h_far h_from h_real h_other h_kept h_set h_real h_book h_noteSort h_whose h_what h_noteIs h_fitting h_dawn h_likes h_walked h_came 0 v_trouble v_where (some h_inn) v_read v_taped v_size v_at v_sort v_place v_sign v_number v_fault v_wrongAt v_word v_marks v_notes N (-2) (r_76, v_trouble_76, v_where_76) hc_76) ml_X12_81 ⟨Nat.le_of_ble_eq_true rfl, Nat.le_of_ble_eq_true rfl⟩ hP hD hS 0 rfl rfl rfl [0] [26, 1, 2, 3, 4, 5, 6, 7, 8, 9, 10, 11, 12, 13, 14, 15, 16, 17, 18, 19, 20, 21, 22, 23, 24, 25] 26 rfl rfl rfl rfl rfl rfl rfl hl.1 rfl (Nat.le_of_ble_eq_true rfl) ⟨Nat.zero_le _, Nat.zero_le _⟩ dX12_sure_76 ?_
              clear hP hD hS; intro H locs hP hD hS
              cases hf
              rw [hQ]
              exact r_iret C hr hP hD hS rfl dX12_sure_79
      exact key51 _ 1 hf _ _ _ (lv_sub hl [3, 4, 2, 1, 0] rfl) hP hD hS
    · replace hf := it_t c_26 hf
      refine lv_aload_n (pc := 29) hx hb dX12_sure_29 rfl (lv_at hl 1 rfl) ?_
      refine lv_bipush (pc := 30) (v := 6) hx hb dX12_sure_30 (by decide) ?_
      obtain ⟨r_32, v_trouble_32, v_where_32, hc_32, hf⟩ := bd3 hf
      refine r_dalVi (pc := 32) (ws' := (wX12_sure E h h_inn h_tape h_far h_from h_real h_other h_kept h_set h_book h_noteSort h_whose h_what h_noteIs h_fitting h_dawn h_likes h_walked h_came h_inn_creak h_inn_doorA h_inn_doorB h_inn_how h_inn_lies h_inn_isCold h_inn_falls h_inn_isFull h_inn_isTold h_inn_act h_inn_what h_inn_then h_inn_met h_inn_bed h_inn_dream h_inn_listens h_inn_name h_inn_nameSort h_inn_nameNumber 0 v_trouble_32 v_where_32 v_read v_taped v_size v_at v_sort v_place v_sign v_number v_fault v_wrongAt v_word v_marks v_notes v_inn_minutes v_inn_rooms v_inn_doors v_inn_things v_inn_dreams v_inn_sleepers v_inn_listeners v_inn_names v_other_21 v_inn_how v_inn_lies v_inn_isFull v_inn_bed v_inn_isTold v_inn_act v_inn_then v_inn_what v_inn_doorA v_inn_doorB v_from_21 v_inn_falls v_inn_creak v_inn_listens v_far v_inn_isCold v_inn_met v_fitting_21 v_book v_noteSort v_whose v_what v_noteIs)) (As := [.int 6]) (rest := []) C (ctX12_refused l E h h_tape h_far h_from h_real h_other h_kept h_set h_real h_book h_noteSort h_whose h_what h_noteIs h_fitting h_dawn h_likes h_walked h_came 0 v_trouble v_where (some h_inn) v_read v_taped v_size v_at v_sort v_place v_sign v_number v_fault v_wrongAt v_word v_marks v_notes N 6 (r_32, v_trouble_32, v_where_32) hc_32) ml_X12_77 ⟨Nat.le_of_ble_eq_true rfl, Nat.le_of_ble_eq_true rfl⟩ hP hD hS 0 rfl rfl rfl [0] [26, 1, 2, 3, 4, 5, 6, 7, 8, 9, 10, 11, 12, 13, 14, 15, 16, 17, 18, 19, 20, 21, 22, 23, 24, 25] 26 rfl rfl rfl rfl rfl rfl rfl hl.1 rfl (Nat.le_of_ble_eq_true rfl) ⟨Nat.zero_le _, Nat.zero_le _⟩ dX12_sure_32 ?_
      clear hP hD hS; intro H locs hP hD hS
      cases hf
      rw [hQ]
      exact r_iret C hr hP hD hS rfl dX12_sure_35
  · replace hf := it_t c_10 hf
    refine lv_aload_n (pc := 13) hx hb dX12_sure_13 rfl (lv_at hl 0 rfl) ?_
    refine lv_iconst (pc := 14) (v := 1) hx hb dX12_sure_14 (by decide) ?_
    obtain ⟨r_15, v_trouble_15, v_where_15, hc_15, hf⟩ := bd3 hf
    refine r_dalVi (pc := 15) (ws' := (wX12_sure E h h_inn h_tape h_far h_from h_real h_other h_kept h_set h_book h_noteSort h_whose h_what h_noteIs h_fitting h_dawn h_likes h_walked h_came h_inn_creak h_inn_doorA h_inn_doorB h_inn_how h_inn_lies h_inn_isCold h_inn_falls h_inn_isFull h_inn_isTold h_inn_act h_inn_what h_inn_then h_inn_met h_inn_bed h_inn_dream h_inn_listens h_inn_name h_inn_nameSort h_inn_nameNumber 0 v_trouble_15 v_where_15 v_read v_taped v_size v_at v_sort v_place v_sign v_number v_fault v_wrongAt v_word v_marks v_notes v_inn_minutes v_inn_rooms v_inn_doors v_inn_things v_inn_dreams v_inn_sleepers v_inn_listeners v_inn_names v_other v_inn_how v_inn_lies v_inn_isFull v_inn_bed v_inn_isTold v_inn_act v_inn_then v_inn_what v_inn_doorA v_inn_doorB v_from v_inn_falls v_inn_creak v_inn_listens v_far v_inn_isCold v_inn_met v_fitting v_book v_noteSort v_whose v_what v_noteIs)) (As := [.int 1]) (rest := []) C (ctX12_refused l E h h_tape h_far h_from h_real h_other h_kept h_set h_real h_book h_noteSort h_whose h_what h_noteIs h_fitting h_dawn h_likes h_walked h_came 0 v_trouble v_where (some h_inn) v_read v_taped v_size v_at v_sort v_place v_sign v_number v_fault v_wrongAt v_word v_marks v_notes N 1 (r_15, v_trouble_15, v_where_15) hc_15) ml_X12_77 ⟨Nat.le_of_ble_eq_true rfl, Nat.le_of_ble_eq_true rfl⟩ hP hD hS 0 rfl rfl rfl [0] [26, 1, 2, 3, 4, 5, 6, 7, 8, 9, 10, 11, 12, 13, 14, 15, 16, 17, 18, 19, 20, 21, 22, 23, 24, 25] 26 rfl rfl rfl rfl rfl rfl rfl hl.1 rfl (Nat.le_of_ble_eq_true rfl) ⟨Nat.zero_le _, Nat.zero_le _⟩ dX12_sure_15 ?_
    clear hP hD hS; intro H locs hP hD hS
    cases hf
    rw [hQ]
    exact r_iret C hr hP hD hS rfl dX12_sure_18
def wX12_sure0 (E : EN) (h h_tape h_far h_from h_real h_other h_kept h_set h_book h_noteSort h_whose h_what h_noteIs h_fitting h_dawn h_likes h_walked h_came : Nat) (v_thrown : Int32) (v_trouble : Int32) (v_where : Int32) (v_read : Option Nat) (v_taped : Int32) (v_size : Int32) (v_at : Int32) (v_sort : Int32) (v_place : Int32) (v_sign : Int32) (v_number : Int32) (v_fault : Int32) (v_wrongAt : Int32) (v_word : Int64) (v_marks : Int32) (v_notes : Int32) : va_W := [(h, .inr (11, [.int v_thrown, .int v_trouble, .int v_where, .null, va_rf v_read, .ref h_tape, .int v_taped, .int v_size, .int v_at, .int v_sort, .int v_place, .int v_sign, .int v_number, .int v_fault, .int v_wrongAt, .long v_word, .ref h_far, .ref h_from, .ref h_real, .ref h_other, .ref h_kept, .ref h_set, .ref h_real, .int v_marks, .int v_notes, .ref h_book, .ref h_noteSort, .ref h_whose, .ref h_what, .ref h_noteIs, .ref h_fitting, .ref h_dawn, .ref h_likes, .ref h_walked, .ref h_came]))]
def fX12_sure0 (N : Nat) : Option (Int32 × Int32 × Int32 × Int32) := (fX12_isSleeper0 N).bind (un1 fun (r_7 : Int32) => if r_7 = 0 then ((fX12_refused N 1).bind (un3 fun (r_15 : Int32) (v_trouble_15 : Int32) (v_where_15 : Int32) => some (r_15, 0, v_trouble_15, v_where_15))) else (none))
set_option maxHeartbeats 4000000 in
set_option maxRecDepth 100000 in
theorem ctX12_sure0 (l : Launch) (E : EN) (h h_tape h_far h_from h_real h_other h_kept h_set h_book h_noteSort h_whose h_what h_noteIs h_fitting h_dawn h_likes h_walked h_came : Nat) (v_thrown : Int32) (v_trouble : Int32) (v_where : Int32) (v_read : Option Nat) (v_taped : Int32) (v_size : Int32) (v_at : Int32) (v_sort : Int32) (v_place : Int32) (v_sign : Int32) (v_number : Int32) (v_fault : Int32) (v_wrongAt : Int32) (v_word : Int64) (v_marks : Int32) (v_notes : Int32) (N : Nat) (p0 : Int32) (z : Int32 × Int32 × Int32 × Int32) (hf : fX12_sure0 N  = some z) : CTi l E yX12_sure cX12_sure 5 .int 1 21 [.ref h, .int p0] (wX12_sure0 E h h_tape h_far h_from h_real h_other h_kept h_set h_book h_noteSort h_whose h_what h_noteIs h_fitting h_dawn h_likes h_walked h_came v_thrown v_trouble v_where v_read v_taped v_size v_at v_sort v_place v_sign v_number v_fault v_wrongAt v_word v_marks v_notes) (z.1) (wX12_sure0 E h h_tape h_far h_from h_real h_other h_kept h_set h_book h_noteSort h_whose h_what h_noteIs h_fitting h_dawn h_likes h_walked h_came z.2.1 z.2.2.1 z.2.2.2 v_read v_taped v_size v_at v_sort v_place v_sign v_number v_fault v_wrongAt v_word v_marks v_notes) := by
  intro sz
  refine ct_body (by decide) (Nat.le_of_ble_eq_true rfl) ?_
  intro p e s m args below meth c A ls hAe C hr hin hP hD hS hl
  have C : CX p s m args meth c cX12_sure RX12 5 E A := C
  have hl : lv_has ls 5 [(0, .ref h), (1, .int p0)] := hl
  have hx := C.1
  have hb := C.2.1
  rw [hAe]
  clear hAe
  obtain ⟨Q, hQ⟩ : ∃ Q, Q = MQ below (Qi E A (z.1) (wX12_sure0 E h h_tape h_far h_from h_real h_other h_kept h_set h_book h_noteSort h_whose h_what h_noteIs h_fitting h_dawn h_likes h_walked h_came z.2.1 z.2.2.1 z.2.2.2 v_read v_taped v_size v_at v_sort v_place v_sign v_number v_fault v_wrongAt v_word v_marks v_notes)) args s 0 0 A := ⟨_, rfl⟩
  rw [← hQ]
  unfold fX12_sure0 at hf
  refine lv_aload_n (pc := 0) hx hb dX12_sure_0 rfl (lv_at hl 0 rfl) ?_
  refine lv_iconst (pc := 1) (v := 0) hx hb dX12_sure_1 (by decide) ?_
  refine r_put (pc := 2) (ws' := (wX12_sure0 E h h_tape h_far h_from h_real h_other h_kept h_set h_book h_noteSort h_whose h_what h_noteIs h_fitting h_dawn h_likes h_walked h_came 0 v_trouble v_where v_read v_taped v_size v_at v_sort v_place v_sign v_number v_fault v_wrongAt v_word v_marks v_notes)) C hP hD hS 0 rfl fl_X12_71 rfl rfl (Nat.le_of_ble_eq_true rfl) rfl dX12_sure_2 ?_
  clear hP hD hS; intro H locs hP hD hS
  refine lv_aload_n (pc := 5) hx hb dX12_sure_5 rfl (lv_at hl 0 rfl) ?_
  refine lv_iload_n (pc := 6) hx hb dX12_sure_6 rfl (lv_at hl 1 rfl) ?_
  obtain ⟨r_7, hc_7, hf⟩ := bd1 hf
  refine r_dalVi (pc := 7) (ws' := (wX12_sure0 E h h_tape h_far h_from h_real h_other h_kept h_set h_book h_noteSort h_whose h_what h_noteIs h_fitting h_dawn h_likes h_walked h_came 0 v_trouble v_where v_read v_taped v_size v_at v_sort v_place v_sign v_number v_fault v_wrongAt v_word v_marks v_notes)) (As := [.int p0]) (rest := []) C (ctX12_isSleeper0 l E h h_tape h_far h_from h_real h_other h_kept h_set h_real h_book h_noteSort h_whose h_what h_noteIs h_fitting h_dawn h_likes h_walked h_came 0 v_trouble v_where v_read v_taped v_size v_at v_sort v_place v_sign v_number v_fault v_wrongAt v_word v_marks v_notes N p0 r_7 hc_7) ml_X12_421 ⟨Nat.le_of_ble_eq_true rfl, Nat.le_of_ble_eq_true rfl⟩ hP hD hS 0 rfl rfl rfl [0] [1] 1 rfl rfl rfl rfl rfl rfl rfl hl.1 rfl (Nat.le_of_ble_eq_true rfl) ⟨Nat.zero_le _, Nat.zero_le _⟩ dX12_sure_7 ?_
  clear hP hD hS; intro H locs hP hD hS
  refine lv_if_ne (pc := 10) (tgt := 19) hx hb dX12_sure_10 (by decide) (fun c_10 => ?_) (fun c_10 => ?_)
  · replace hf := it_f c_10 hf
    refine lv_aload_n (pc := 19) hx hb dX12_sure_19 rfl (lv_at hl 0 rfl) ?_
    refine lv_iconst (pc := 20) (v := 3) hx hb dX12_sure_20 (by decide) ?_
    cases hf
  · replace hf := it_t c_10 hf
    refine lv_aload_n (pc := 13) hx hb dX12_sure_13 rfl (lv_at hl 0 rfl) ?_
    refine lv_iconst (pc := 14) (v := 1) hx hb dX12_sure_14 (by decide) ?_
    obtain ⟨r_15, v_trouble_15, v_where_15, hc_15, hf⟩ := bd3 hf
    refine r_dalVi (pc := 15) (ws' := (wX12_sure0 E h h_tape h_far h_from h_real h_other h_kept h_set h_book h_noteSort h_whose h_what h_noteIs h_fitting h_dawn h_likes h_walked h_came 0 v_trouble_15 v_where_15 v_read v_taped v_size v_at v_sort v_place v_sign v_number v_fault v_wrongAt v_word v_marks v_notes)) (As := [.int 1]) (rest := []) C (ctX12_refused l E h h_tape h_far h_from h_real h_other h_kept h_set h_real h_book h_noteSort h_whose h_what h_noteIs h_fitting h_dawn h_likes h_walked h_came 0 v_trouble v_where none v_read v_taped v_size v_at v_sort v_place v_sign v_number v_fault v_wrongAt v_word v_marks v_notes N 1 (r_15, v_trouble_15, v_where_15) hc_15) ml_X12_77 ⟨Nat.le_of_ble_eq_true rfl, Nat.le_of_ble_eq_true rfl⟩ hP hD hS 0 rfl rfl rfl [0] [1] 1 rfl rfl rfl rfl rfl rfl rfl hl.1 rfl (Nat.le_of_ble_eq_true rfl) ⟨Nat.zero_le _, Nat.zero_le _⟩ dX12_sure_15 ?_
    clear hP hD hS; intro H locs hP hD hS
    cases hf
    rw [hQ]
    exact r_iret C hr hP hD hS rfl dX12_sure_18
def wX12_verdict (E : EN) (h h_inn h_tape h_far h_from h_real h_other h_kept h_set h_book h_noteSort h_whose h_what h_noteIs h_fitting h_dawn h_likes h_walked h_came h_inn_creak h_inn_doorA h_inn_doorB h_inn_how h_inn_lies h_inn_isCold h_inn_falls h_inn_isFull h_inn_isTold h_inn_act h_inn_what h_inn_then h_inn_met h_inn_bed h_inn_dream h_inn_listens h_inn_name h_inn_nameSort h_inn_nameNumber : Nat) (v_thrown : Int32) (v_trouble : Int32) (v_where : Int32) (v_read : Option Nat) (v_taped : Int32) (v_size : Int32) (v_at : Int32) (v_sort : Int32) (v_place : Int32) (v_sign : Int32) (v_number : Int32) (v_fault : Int32) (v_wrongAt : Int32) (v_word : Int64) (v_marks : Int32) (v_notes : Int32) (v_inn_minutes : Int32) (v_inn_rooms : Int32) (v_inn_doors : Int32) (v_inn_things : Int32) (v_inn_dreams : Int32) (v_inn_sleepers : Int32) (v_inn_listeners : Int32) (v_inn_names : Int32) (v_other : Nat → Int32) (v_inn_how : Nat → Int32) (v_inn_lies : Nat → Int32) (v_inn_isFull : Nat → Int32) (v_inn_bed : Nat → Int32) (v_inn_isTold : Nat → Int32) (v_inn_act : Nat → Int32) (v_inn_then : Nat → Int32) (v_inn_what : Nat → Int32) (v_inn_doorA : Nat → Int32) (v_inn_doorB : Nat → Int32) (v_from : Nat → Int32) (v_inn_falls : Nat → Int32) (v_inn_creak : Nat → Int32) (v_inn_listens : Nat → Int32) (v_far : Nat → Int32) (v_inn_isCold : Nat → Int32) (v_inn_met : Nat → Int32) (v_fitting : Nat → Int32) (v_book : Nat → Int32) (v_noteSort : Nat → Int32) (v_whose : Nat → Int32) (v_what : Nat → Int32) (v_noteIs : Nat → Int32) : va_W := [(h, .inr (11, [.int v_thrown, .int v_trouble, .int v_where, .ref h_inn, va_rf v_read, .ref h_tape, .int v_taped, .int v_size, .int v_at, .int v_sort, .int v_place, .int v_sign, .int v_number, .int v_fault, .int v_wrongAt, .long v_word, .ref h_far, .ref h_from, .ref h_real, .ref h_other, .ref h_kept, .ref h_set, .ref h_real, .int v_marks, .int v_notes, .ref h_book, .ref h_noteSort, .ref h_whose, .ref h_what, .ref h_noteIs, .ref h_fitting, .ref h_dawn, .ref h_likes, .ref h_walked, .ref h_came])), (h_inn, .inr (10, [.int v_inn_minutes, .int v_inn_rooms, .int v_inn_doors, .int v_inn_things, .int v_inn_dreams, .int v_inn_sleepers, .int v_inn_listeners, .int v_inn_names, .ref h_inn_creak, .ref h_inn_doorA, .ref h_inn_doorB, .ref h_inn_how, .ref h_inn_lies, .ref h_inn_isCold, .ref h_inn_falls, .ref h_inn_isFull, .ref h_inn_isTold, .ref h_inn_act, .ref h_inn_what, .ref h_inn_then, .ref h_inn_met, .ref h_inn_bed, .ref h_inn_dream, .ref h_inn_listens, .ref h_inn_name, .ref h_inn_nameSort, .ref h_inn_nameNumber])), (h_other, aI E 51 v_other), (h_inn_how, aI E 10 v_inn_how), (h_inn_lies, aI E 4 v_inn_lies), (h_inn_isFull, aZ E 4 v_inn_isFull), (h_inn_bed, aI E 3 v_inn_bed), (h_inn_isTold, aZ E 16 v_inn_isTold), (h_inn_act, aI E 16 v_inn_act), (h_inn_then, aI E 16 v_inn_then), (h_inn_what, aI E 16 v_inn_what), (h_inn_doorA, aI E 10 v_inn_doorA), (h_inn_doorB, aI E 10 v_inn_doorB), (h_from, aI E 8 v_from), (h_inn_falls, aZ E 10 v_inn_falls), (h_inn_creak, aI E 8 v_inn_creak), (h_inn_listens, aI E 3 v_inn_listens), (h_far, aI E 64 v_far), (h_inn_isCold, aZ E 8 v_inn_isCold), (h_inn_met, aI E 16 v_inn_met), (h_fitting, aI E 64 v_fitting), (h_book, aI E 20 v_book), (h_noteSort, aI E 20 v_noteSort), (h_whose, aI E 20 v_whose), (h_what, aI E 20 v_what), (h_noteIs, aZ E 20 v_noteIs)]
def fX12_verdict (N : Nat) (v_notes : Int32) (v_inn_minutes : Int32) (v_inn_rooms : Int32) (v_inn_doors : Int32) (v_inn_things : Int32) (v_inn_dreams : Int32) (v_inn_sleepers : Int32) (v_inn_listeners : Int32) (v_other : Nat → Int32) (v_inn_how : Nat → Int32) (v_inn_lies : Nat → Int32) (v_inn_isFull : Nat → Int32) (v_inn_bed : Nat → Int32) (v_inn_isTold : Nat → Int32) (v_inn_act : Nat → Int32) (v_inn_then : Nat → Int32) (v_inn_what : Nat → Int32) (v_inn_doorA : Nat → Int32) (v_inn_doorB : Nat → Int32) (v_from : Nat → Int32) (v_inn_falls : Nat → Int32) (v_inn_creak : Nat → Int32) (v_inn_listens : Nat → Int32) (v_far : Nat → Int32) (v_inn_isCold : Nat → Int32) (v_inn_met : Nat → Int32) (v_fitting : Nat → Int32) (v_book : Nat → Int32) (v_noteSort : Nat → Int32) (v_whose : Nat → Int32) (v_what : Nat → Int32) (v_noteIs : Nat → Int32) : Option (Int32 × Int32 × Int32 × Int32 × (Nat → Int32) × (Nat → Int32) × (Nat → Int32)) := (fX12_fitsBy N 3 v_notes v_inn_minutes v_inn_rooms v_inn_doors v_inn_things v_inn_dreams v_inn_sleepers v_inn_listeners v_other v_inn_how v_inn_lies v_inn_isFull v_inn_bed v_inn_isTold v_inn_act v_inn_then v_inn_what v_inn_doorA v_inn_doorB v_from v_inn_falls v_inn_creak v_inn_listens v_far v_inn_isCold v_inn_met v_fitting v_book v_noteSort v_whose v_what v_noteIs).bind (un4 fun (r_20 : Int32) (v_other_20 : Nat → Int32) (v_from_20 : Nat → Int32) (v_fitting_20 : Nat → Int32) => if r_20 ≤ 0 then ((fX12_fitsBy N 1 v_notes v_inn_minutes v_inn_rooms v_inn_doors v_inn_things v_inn_dreams v_inn_sleepers v_inn_listeners v_other_20 v_inn_how v_inn_lies v_inn_isFull v_inn_bed v_inn_isTold v_inn_act v_inn_then v_inn_what v_inn_doorA v_inn_doorB v_from_20 v_inn_falls v_inn_creak v_inn_listens v_far v_inn_isCold v_inn_met v_fitting_20 v_book v_noteSort v_whose v_what v_noteIs).bind (un4 fun (r_34 : Int32) (v_other_34 : Nat → Int32) (v_from_34 : Nat → Int32) (v_fitting_34 : Nat → Int32) => (fX12_fitsBy N 2 v_notes v_inn_minutes v_inn_rooms v_inn_doors v_inn_things v_inn_dreams v_inn_sleepers v_inn_listeners v_other_34 v_inn_how v_inn_lies v_inn_isFull v_inn_bed v_inn_isTold v_inn_act v_inn_then v_inn_what v_inn_doorA v_inn_doorB v_from_34 v_inn_falls v_inn_creak v_inn_listens v_far v_inn_isCold v_inn_met v_fitting_34 v_book v_noteSort v_whose v_what v_noteIs).bind (un4 fun (r_40 : Int32) (v_other_40 : Nat → Int32) (v_from_40 : Nat → Int32) (v_fitting_40 : Nat → Int32) => if r_34 ≤ 0 then (if r_40 ≤ 0 then ((fX12_good N 4).bind (un3 fun (r_70 : Int32) (v_trouble_70 : Int32) (v_where_70 : Int32) => some (r_70, 0, v_trouble_70, v_where_70, v_other_40, v_from_40, v_fitting_40))) else ((fX12_good N 2).bind (un3 fun (r_70 : Int32) (v_trouble_70 : Int32) (v_where_70 : Int32) => some (r_70, 0, v_trouble_70, v_where_70, v_other_40, v_from_40, v_fitting_40)))) else (if r_40 ≤ 0 then ((fX12_good N 1).bind (un3 fun (r_70 : Int32) (v_trouble_70 : Int32) (v_where_70 : Int32) => some (r_70, 0, v_trouble_70, v_where_70, v_other_40, v_from_40, v_fitting_40))) else ((fX12_good N 3).bind (un3 fun (r_70 : Int32) (v_trouble_70 : Int32) (v_where_70 : Int32) => some (r_70, 0, v_trouble_70, v_where_70, v_other_40, v_from_40, v_fitting_40))))))) else ((fX12_good N 0).bind (un3 fun (r_28 : Int32) (v_trouble_28 : Int32) (v_where_28 : Int32) => some (r_28, 0, v_trouble_28, v_where_28, v_other_20, v_from_20, v_fitting_20))))
set_option maxHeartbeats 4000000 in
set_option maxRecDepth 100000 in
theorem ctX12_verdict (l : Launch) (E : EN) (h h_inn h_tape h_far h_from h_real h_other h_kept h_set h_book h_noteSort h_whose h_what h_noteIs h_fitting h_dawn h_likes h_walked h_came h_inn_creak h_inn_doorA h_inn_doorB h_inn_how h_inn_lies h_inn_isCold h_inn_falls h_inn_isFull h_inn_isTold h_inn_act h_inn_what h_inn_then h_inn_met h_inn_bed h_inn_dream h_inn_listens h_inn_name h_inn_nameSort h_inn_nameNumber : Nat) (v_thrown : Int32) (v_trouble : Int32) (v_where : Int32) (v_read : Option Nat) (v_taped : Int32) (v_size : Int32) (v_at : Int32) (v_sort : Int32) (v_place : Int32) (v_sign : Int32) (v_number : Int32) (v_fault : Int32) (v_wrongAt : Int32) (v_word : Int64) (v_marks : Int32) (v_notes : Int32) (v_inn_minutes : Int32) (v_inn_rooms : Int32) (v_inn_doors : Int32) (v_inn_things : Int32) (v_inn_dreams : Int32) (v_inn_sleepers : Int32) (v_inn_listeners : Int32) (v_inn_names : Int32) (v_other : Nat → Int32) (v_inn_how : Nat → Int32) (v_inn_lies : Nat → Int32) (v_inn_isFull : Nat → Int32) (v_inn_bed : Nat → Int32) (v_inn_isTold : Nat → Int32) (v_inn_act : Nat → Int32) (v_inn_then : Nat → Int32) (v_inn_what : Nat → Int32) (v_inn_doorA : Nat → Int32) (v_inn_doorB : Nat → Int32) (v_from : Nat → Int32) (v_inn_falls : Nat → Int32) (v_inn_creak : Nat → Int32) (v_inn_listens : Nat → Int32) (v_far : Nat → Int32) (v_inn_isCold : Nat → Int32) (v_inn_met : Nat → Int32) (v_fitting : Nat → Int32) (v_book : Nat → Int32) (v_noteSort : Nat → Int32) (v_whose : Nat → Int32) (v_what : Nat → Int32) (v_noteIs : Nat → Int32) (N : Nat) (z : Int32 × Int32 × Int32 × Int32 × (Nat → Int32) × (Nat → Int32) × (Nat → Int32)) (hf : fX12_verdict N v_notes v_inn_minutes v_inn_rooms v_inn_doors v_inn_things v_inn_dreams v_inn_sleepers v_inn_listeners v_other v_inn_how v_inn_lies v_inn_isFull v_inn_bed v_inn_isTold v_inn_act v_inn_then v_inn_what v_inn_doorA v_inn_doorB v_from v_inn_falls v_inn_creak v_inn_listens v_far v_inn_isCold v_inn_met v_fitting v_book v_noteSort v_whose v_what v_noteIs = some z) : CTi l E yX12_verdict cX12_verdict 3 .int 8 185 [.ref h] (wX12_verdict E h h_inn h_tape h_far h_from h_real h_other h_kept h_set h_book h_noteSort h_whose h_what h_noteIs h_fitting h_dawn h_likes h_walked h_came h_inn_creak h_inn_doorA h_inn_doorB h_inn_how h_inn_lies h_inn_isCold h_inn_falls h_inn_isFull h_inn_isTold h_inn_act h_inn_what h_inn_then h_inn_met h_inn_bed h_inn_dream h_inn_listens h_inn_name h_inn_nameSort h_inn_nameNumber v_thrown v_trouble v_where v_read v_taped v_size v_at v_sort v_place v_sign v_number v_fault v_wrongAt v_word v_marks v_notes v_inn_minutes v_inn_rooms v_inn_doors v_inn_things v_inn_dreams v_inn_sleepers v_inn_listeners v_inn_names v_other v_inn_how v_inn_lies v_inn_isFull v_inn_bed v_inn_isTold v_inn_act v_inn_then v_inn_what v_inn_doorA v_inn_doorB v_from v_inn_falls v_inn_creak v_inn_listens v_far v_inn_isCold v_inn_met v_fitting v_book v_noteSort v_whose v_what v_noteIs) (z.1) (wX12_verdict E h h_inn h_tape h_far h_from h_real h_other h_kept h_set h_book h_noteSort h_whose h_what h_noteIs h_fitting h_dawn h_likes h_walked h_came h_inn_creak h_inn_doorA h_inn_doorB h_inn_how h_inn_lies h_inn_isCold h_inn_falls h_inn_isFull h_inn_isTold h_inn_act h_inn_what h_inn_then h_inn_met h_inn_bed h_inn_dream h_inn_listens h_inn_name h_inn_nameSort h_inn_nameNumber z.2.1 z.2.2.1 z.2.2.2.1 v_read v_taped v_size v_at v_sort v_place v_sign v_number v_fault v_wrongAt v_word v_marks v_notes v_inn_minutes v_inn_rooms v_inn_doors v_inn_things v_inn_dreams v_inn_sleepers v_inn_listeners v_inn_names z.2.2.2.2.1 v_inn_how v_inn_lies v_inn_isFull v_inn_bed v_inn_isTold v_inn_act v_inn_then v_inn_what v_inn_doorA v_inn_doorB z.2.2.2.2.2.1 v_inn_falls v_inn_creak v_inn_listens v_far v_inn_isCold v_inn_met z.2.2.2.2.2.2 v_book v_noteSort v_whose v_what v_noteIs) := by
  intro sz
  refine ct_body (by decide) (Nat.le_of_ble_eq_true rfl) ?_
  intro p e s m args below meth c A ls hAe C hr hin hP hD hS hl
  have C : CX p s m args meth c cX12_verdict RX12 3 E A := C
  have hl : lv_has ls 3 [(0, .ref h)] := hl
  have hx := C.1
  have hb := C.2.1
  rw [hAe]
  clear hAe
  obtain ⟨Q, hQ⟩ : ∃ Q, Q = MQ below (Qi E A (z.1) (wX12_verdict E h h_inn h_tape h_far h_from h_real h_other h_kept h_set h_book h_noteSort h_whose h_what h_noteIs h_fitting h_dawn h_likes h_walked h_came h_inn_creak h_inn_doorA h_inn_doorB h_inn_how h_inn_lies h_inn_isCold h_inn_falls h_inn_isFull h_inn_isTold h_inn_act h_inn_what h_inn_then h_inn_met h_inn_bed h_inn_dream h_inn_listens h_inn_name h_inn_nameSort h_inn_nameNumber z.2.1 z.2.2.1 z.2.2.2.1 v_read v_taped v_size v_at v_sort v_place v_sign v_number v_fault v_wrongAt v_word v_marks v_notes v_inn_minutes v_inn_rooms v_inn_doors v_inn_things v_inn_dreams v_inn_sleepers v_inn_listeners v_inn_names z.2.2.2.2.1 v_inn_how v_inn_lies v_inn_isFull v_inn_bed v_inn_isTold v_inn_act v_inn_then v_inn_what v_inn_doorA v_inn_doorB z.2.2.2.2.2.1 v_inn_falls v_inn_creak v_inn_listens v_far v_inn_isCold v_inn_met z.2.2.2.2.2.2 v_book v_noteSort v_whose v_what v_noteIs)) args s 0 0 A := ⟨_, rfl⟩
  rw [← hQ]
  unfold fX12_verdict at hf
  refine lv_aload_n (pc := 0) hx hb dX12_verdict_0 rfl (lv_at hl 0 rfl) ?_
  refine lv_iconst (pc := 1) (v := 0) hx hb dX12_verdict_1 (by decide) ?_
  refine r_put (pc := 2) (ws' := (wX12_verdict E h h_inn h_tape h_far h_from h_real h_other h_kept h_set h_book h_noteSort h_whose h_what h_noteIs h_fitting h_dawn h_likes h_walked h_came h_inn_creak h_inn_doorA h_inn_doorB h_inn_how h_inn_lies h_inn_isCold h_inn_falls h_inn_isFull h_inn_isTold h_inn_act h_inn_what h_inn_then h_inn_met h_inn_bed h_inn_dream h_inn_listens h_inn_name h_inn_nameSort h_inn_nameNumber 0 v_trouble v_where v_read v_taped v_size v_at v_sort v_place v_sign v_number v_fault v_wrongAt v_word v_marks v_notes v_inn_minutes v_inn_rooms v_inn_doors v_inn_things v_inn_dreams v_inn_sleepers v_inn_listeners v_inn_names v_other v_inn_how v_inn_lies v_inn_isFull v_inn_bed v_inn_isTold v_inn_act v_inn_then v_inn_what v_inn_doorA v_inn_doorB v_from v_inn_falls v_inn_creak v_inn_listens v_far v_inn_isCold v_inn_met v_fitting v_book v_noteSort v_whose v_what v_noteIs)) C hP hD hS 0 rfl fl_X12_71 rfl rfl (Nat.le_of_ble_eq_true rfl) rfl dX12_verdict_2 ?_
  clear hP hD hS; intro H locs hP hD hS
  refine lv_aload_n (pc := 5) hx hb dX12_verdict_5 rfl (lv_at hl 0 rfl) ?_
  refine r_get (pc := 6) C hP 0 rfl fl_X12_358 rfl dX12_verdict_6 ?_
  refine lv_ifnonnull (pc := 9) (tgt := 18) hx hb dX12_verdict_9 (by decide) ?_
  refine lv_aload_n (pc := 18) hx hb dX12_verdict_18 rfl (lv_at hl 0 rfl) ?_
  refine lv_iconst (pc := 19) (v := 3) hx hb dX12_verdict_19 (by decide) ?_
  obtain ⟨r_20, v_other_20, v_from_20, v_fitting_20, hc_20, hf⟩ := bd4 hf
  refine r_dalVi (pc := 20) (ws' := (wX12_verdict E h h_inn h_tape h_far h_from h_real h_other h_kept h_set h_book h_noteSort h_whose h_what h_noteIs h_fitting h_dawn h_likes h_walked h_came h_inn_creak h_inn_doorA h_inn_doorB h_inn_how h_inn_lies h_inn_isCold h_inn_falls h_inn_isFull h_inn_isTold h_inn_act h_inn_what h_inn_then h_inn_met h_inn_bed h_inn_dream h_inn_listens h_inn_name h_inn_nameSort h_inn_nameNumber 0 v_trouble v_where v_read v_taped v_size v_at v_sort v_place v_sign v_number v_fault v_wrongAt v_word v_marks v_notes v_inn_minutes v_inn_rooms v_inn_doors v_inn_things v_inn_dreams v_inn_sleepers v_inn_listeners v_inn_names v_other_20 v_inn_how v_inn_lies v_inn_isFull v_inn_bed v_inn_isTold v_inn_act v_inn_then v_inn_what v_inn_doorA v_inn_doorB v_from_20 v_inn_falls v_inn_creak v_inn_listens v_far v_inn_isCold v_inn_met v_fitting_20 v_book v_noteSort v_whose v_what v_noteIs)) (As := [.int 3]) (rest := []) C (ctX12_fitsBy l E h h_inn h_tape h_far h_from h_real h_other h_kept h_set h_book h_noteSort h_whose h_what h_noteIs h_fitting h_dawn h_likes h_walked h_came h_inn_creak h_inn_doorA h_inn_doorB h_inn_how h_inn_lies h_inn_isCold h_inn_falls h_inn_isFull h_inn_isTold h_inn_act h_inn_what h_inn_then h_inn_met h_inn_bed h_inn_dream h_inn_listens h_inn_name h_inn_nameSort h_inn_nameNumber 0 v_trouble v_where v_read v_taped v_size v_at v_sort v_place v_sign v_number v_fault v_wrongAt v_word v_marks v_notes v_inn_minutes v_inn_rooms v_inn_doors v_inn_things v_inn_dreams v_inn_sleepers v_inn_listeners v_inn_names v_other v_inn_how v_inn_lies v_inn_isFull v_inn_bed v_inn_isTold v_inn_act v_inn_then v_inn_what v_inn_doorA v_inn_doorB v_from v_inn_falls v_inn_creak v_inn_listens v_far v_inn_isCold v_inn_met v_fitting v_book v_noteSort v_whose v_what v_noteIs N 3 (r_20, v_other_20, v_from_20, v_fitting_20) hc_20) ml_X12_464 ⟨Nat.le_of_ble_eq_true rfl, Nat.le_of_ble_eq_true rfl⟩ hP hD hS 0 rfl rfl rfl [0, 1, 2, 3, 4, 5, 6, 7, 8, 9, 10, 11, 12, 13, 14, 15, 16, 17, 18, 19, 20, 21, 22, 23, 24, 25] [26, 27, 28, 29, 30, 31, 32, 33, 34, 35, 36, 37, 38, 39, 40, 41, 42, 43, 44, 45, 46, 47, 48, 49, 50, 51] 26 rfl rfl rfl rfl rfl rfl rfl hl.1 rfl (Nat.le_of_ble_eq_true rfl) ⟨Nat.zero_le _, Nat.zero_le _⟩ dX12_verdict_20 ?_
  clear hP hD hS; intro H locs hP hD hS
  refine lv_if_le (pc := 23) (tgt := 32) hx hb dX12_verdict_23 (by decide) (fun c_23 => ?_) (fun c_23 => ?_)
  · replace hf := it_t c_23 hf
    refine lv_aload_n (pc := 32) hx hb dX12_verdict_32 rfl (lv_at hl 0 rfl) ?_
    refine lv_iconst (pc := 33) (v := 1) hx hb dX12_verdict_33 (by decide) ?_
    obtain ⟨r_34, v_other_34, v_from_34, v_fitting_34, hc_34, hf⟩ := bd4 hf
    refine r_dalVi (pc := 34) (ws' := (wX12_verdict E h h_inn h_tape h_far h_from h_real h_other h_kept h_set h_book h_noteSort h_whose h_what h_noteIs h_fitting h_dawn h_likes h_walked h_came h_inn_creak h_inn_doorA h_inn_doorB h_inn_how h_inn_lies h_inn_isCold h_inn_falls h_inn_isFull h_inn_isTold h_inn_act h_inn_what h_inn_then h_inn_met h_inn_bed h_inn_dream h_inn_listens h_inn_name h_inn_nameSort h_inn_nameNumber 0 v_trouble v_where v_read v_taped v_size v_at v_sort v_place v_sign v_number v_fault v_wrongAt v_word v_marks v_notes v_inn_minutes v_inn_rooms v_inn_doors v_inn_things v_inn_dreams v_inn_sleepers v_inn_listeners v_inn_names v_other_34 v_inn_how v_inn_lies v_inn_isFull v_inn_bed v_inn_isTold v_inn_act v_inn_then v_inn_what v_inn_doorA v_inn_doorB v_from_34 v_inn_falls v_inn_creak v_inn_listens v_far v_inn_isCold v_inn_met v_fitting_34 v_book v_noteSort v_whose v_what v_noteIs)) (As := [.int 1]) (rest := []) C (ctX12_fitsBy l E h h_inn h_tape h_far h_from h_real h_other h_kept h_set h_book h_noteSort h_whose h_what h_noteIs h_fitting h_dawn h_likes h_walked h_came h_inn_creak h_inn_doorA h_inn_doorB h_inn_how h_inn_lies h_inn_isCold h_inn_falls h_inn_isFull h_inn_isTold h_inn_act h_inn_what h_inn_then h_inn_met h_inn_bed h_inn_dream h_inn_listens h_inn_name h_inn_nameSort h_inn_nameNumber 0 v_trouble v_where v_read v_taped v_size v_at v_sort v_place v_sign v_number v_fault v_wrongAt v_word v_marks v_notes v_inn_minutes v_inn_rooms v_inn_doors v_inn_things v_inn_dreams v_inn_sleepers v_inn_listeners v_inn_names v_other_20 v_inn_how v_inn_lies v_inn_isFull v_inn_bed v_inn_isTold v_inn_act v_inn_then v_inn_what v_inn_doorA v_inn_doorB v_from_20 v_inn_falls v_inn_creak v_inn_listens v_far v_inn_isCold v_inn_met v_fitting_20 v_book v_noteSort v_whose v_what v_noteIs N 1 (r_34, v_other_34, v_from_34, v_fitting_34) hc_34) ml_X12_464 ⟨Nat.le_of_ble_eq_true rfl, Nat.le_of_ble_eq_true rfl⟩ hP hD hS 0 rfl rfl rfl [0, 1, 2, 3, 4, 5, 6, 7, 8, 9, 10, 11, 12, 13, 14, 15, 16, 17, 18, 19, 20, 21, 22, 23, 24, 25] [26, 27, 28, 29, 30, 31, 32, 33, 34, 35, 36, 37, 38, 39, 40, 41, 42, 43, 44, 45, 46, 47, 48, 49, 50, 51] 26 rfl rfl rfl rfl rfl rfl rfl hl.1 rfl (Nat.le_of_ble_eq_true rfl) ⟨Nat.zero_le _, Nat.zero_le _⟩ dX12_verdict_34 ?_
    clear hP hD hS; intro H locs hP hD hS
    refine lv_istore_n (pc := 37) (lv' := [(1, .int r_34), (0, .ref h)]) hx hb dX12_verdict_37 rfl hl (by decide) rfl (fun ls hl => ?_)
    refine lv_aload_n (pc := 38) hx hb dX12_verdict_38 rfl (lv_at hl 1 rfl) ?_
    refine lv_iconst (pc := 39) (v := 2) hx hb dX12_verdict_39 (by decide) ?_
    obtain ⟨r_40, v_other_40, v_from_40, v_fitting_40, hc_40, hf⟩ := bd4 hf
    refine r_dalVi (pc := 40) (ws' := (wX12_verdict E h h_inn h_tape h_far h_from h_real h_other h_kept h_set h_book h_noteSort h_whose h_what h_noteIs h_fitting h_dawn h_likes h_walked h_came h_inn_creak h_inn_doorA h_inn_doorB h_inn_how h_inn_lies h_inn_isCold h_inn_falls h_inn_isFull h_inn_isTold h_inn_act h_inn_what h_inn_then h_inn_met h_inn_bed h_inn_dream h_inn_listens h_inn_name h_inn_nameSort h_inn_nameNumber 0 v_trouble v_where v_read v_taped v_size v_at v_sort v_place v_sign v_number v_fault v_wrongAt v_word v_marks v_notes v_inn_minutes v_inn_rooms v_inn_doors v_inn_things v_inn_dreams v_inn_sleepers v_inn_listeners v_inn_names v_other_40 v_inn_how v_inn_lies v_inn_isFull v_inn_bed v_inn_isTold v_inn_act v_inn_then v_inn_what v_inn_doorA v_inn_doorB v_from_40 v_inn_falls v_inn_creak v_inn_listens v_far v_inn_isCold v_inn_met v_fitting_40 v_book v_noteSort v_whose v_what v_noteIs)) (As := [.int 2]) (rest := []) C (ctX12_fitsBy l E h h_inn h_tape h_far h_from h_real h_other h_kept h_set h_book h_noteSort h_whose h_what h_noteIs h_fitting h_dawn h_likes h_walked h_came h_inn_creak h_inn_doorA h_inn_doorB h_inn_how h_inn_lies h_inn_isCold h_inn_falls h_inn_isFull h_inn_isTold h_inn_act h_inn_what h_inn_then h_inn_met h_inn_bed h_inn_dream h_inn_listens h_inn_name h_inn_nameSort h_inn_nameNumber 0 v_trouble v_where v_read v_taped v_size v_at v_sort v_place v_sign v_number v_fault v_wrongAt v_word v_marks v_notes v_inn_minutes v_inn_rooms v_inn_doors v_inn_things v_inn_dreams v_inn_sleepers v_inn_listeners v_inn_names v_other_34 v_inn_how v_inn_lies v_inn_isFull v_inn_bed v_inn_isTold v_inn_act v_inn_then v_inn_what v_inn_doorA v_inn_doorB v_from_34 v_inn_falls v_inn_creak v_inn_listens v_far v_inn_isCold v_inn_met v_fitting_34 v_book v_noteSort v_whose v_what v_noteIs N 2 (r_40, v_other_40, v_from_40, v_fitting_40) hc_40) ml_X12_464 ⟨Nat.le_of_ble_eq_true rfl, Nat.le_of_ble_eq_true rfl⟩ hP hD hS 0 rfl rfl rfl [0, 1, 2, 3, 4, 5, 6, 7, 8, 9, 10, 11, 12, 13, 14, 15, 16, 17, 18, 19, 20, 21, 22, 23, 24, 25] [26, 27, 28, 29, 30, 31, 32, 33, 34, 35, 36, 37, 38, 39, 40, 41, 42, 43, 44, 45, 46, 47, 48, 49, 50, 51] 26 rfl rfl rfl rfl rfl rfl rfl hl.1 rfl (Nat.le_of_ble_eq_true rfl) ⟨Nat.zero_le _, Nat.zero_le _⟩ dX12_verdict_40 ?_
    clear hP hD hS; intro H locs hP hD hS
    refine lv_istore_n (pc := 43) (lv' := [(2, .int r_40), (1, .int r_34), (0, .ref h)]) hx hb dX12_verdict_43 rfl hl (by decide) rfl (fun ls hl => ?_)
    refine lv_aload_n (pc := 44) hx hb dX12_verdict_44 rfl (lv_at hl 2 rfl) ?_
    refine lv_iload_n (pc := 45) hx hb dX12_verdict_45 rfl (lv_at hl 1 rfl) ?_
    refine lv_if_le (pc := 46) (tgt := 61) hx hb dX12_verdict_46 (by decide) (fun c_46 => ?_) (fun c_46 => ?_)
    · replace hf := it_t c_46 hf
      refine lv_iload_n (pc := 61) hx hb dX12_verdict_61 rfl (lv_at hl 0 rfl) ?_
      refine lv_if_le (pc := 62) (tgt := 69) hx hb dX12_verdict_62 (by decide) (fun c_62 => ?_) (fun c_62 => ?_)
      · replace hf := it_t c_62 hf
        refine lv_iconst (pc := 69) (v := 4) hx hb dX12_verdict_69 (by decide) ?_
        obtain ⟨r_70, v_trouble_70, v_where_70, hc_70, hf⟩ := bd3 hf
        refine r_dalVi (pc := 70) (ws' := (wX12_verdict E h h_inn h_tape h_far h_from h_real h_other h_kept h_set h_book h_noteSort h_whose h_what h_noteIs h_fitting h_dawn h_likes h_walked h_came h_inn_creak h_inn_doorA h_inn_doorB h_inn_how h_inn_lies h_inn_isCold h_inn_falls h_inn_isFull h_inn_isTold h_inn_act h_inn_what h_inn_then h_inn_met h_inn_bed h_inn_dream h_inn_listens h_inn_name h_inn_nameSort h_inn_nameNumber 0 v_trouble_70 v_where_70 v_read v_taped v_size v_at v_sort v_place v_sign v_number v_fault v_wrongAt v_word v_marks v_notes v_inn_minutes v_inn_rooms v_inn_doors v_inn_things v_inn_dreams v_inn_sleepers v_inn_listeners v_inn_names v_other_40 v_inn_how v_inn_lies v_inn_isFull v_inn_bed v_inn_isTold v_inn_act v_inn_then v_inn_what v_inn_doorA v_inn_doorB v_from_40 v_inn_falls v_inn_creak v_inn_listens v_far v_inn_isCold v_inn_met v_fitting_40 v_book v_noteSort v_whose v_what v_noteIs)) (As := [.int 4]) (rest := []) C (ctX12_good l E h h_tape h_far h_from h_real h_other h_kept h_set h_real h_book h_noteSort h_whose h_what h_noteIs h_fitting h_dawn h_likes h_walked h_came 0 v_trouble v_where (some h_inn) v_read v_taped v_size v_at v_sort v_place v_sign v_number v_fault v_wrongAt v_word v_marks v_notes N 4 (r_70, v_trouble_70, v_where_70) hc_70) ml_X12_81 ⟨Nat.le_of_ble_eq_true rfl, Nat.le_of_ble_eq_true rfl⟩ hP hD hS 0 rfl rfl rfl [0] [26, 1, 2, 3, 4, 5, 6, 7, 8, 9, 10, 11, 12, 13, 14, 15, 16, 17, 18, 19, 20, 21, 22, 23, 24, 25] 26 rfl rfl rfl rfl rfl rfl rfl hl.1 rfl (Nat.le_of_ble_eq_true rfl) ⟨Nat.zero_le _, Nat.zero_le _⟩ dX12_verdict_70 ?_
        clear hP hD hS; intro H locs hP hD hS
        cases hf
        rw [hQ]
        exact r_iret C hr hP hD hS rfl dX12_verdict_73
      · replace hf := it_f c_62 hf
        refine lv_iconst (pc := 65) (v := 2) hx hb dX12_verdict_65 (by decide) ?_
        refine lv_goto (pc := 66) (tgt := 70) hx hb dX12_verdict_66 (by decide) ?_
        obtain ⟨r_70, v_trouble_70, v_where_70, hc_70, hf⟩ := bd3 hf
        refine r_dalVi (pc := 70) (ws' := (wX12_verdict E h h_inn h_tape h_far h_from h_real h_other h_kept h_set h_book h_noteSort h_whose h_what h_noteIs h_fitting h_dawn h_likes h_walked h_came h_inn_creak h_inn_doorA h_inn_doorB h_inn_how h_inn_lies h_inn_isCold h_inn_falls h_inn_isFull h_inn_isTold h_inn_act h_inn_what h_inn_then h_inn_met h_inn_bed h_inn_dream h_inn_listens h_inn_name h_inn_nameSort h_inn_nameNumber 0 v_trouble_70 v_where_70 v_read v_taped v_size v_at v_sort v_place v_sign v_number v_fault v_wrongAt v_word v_marks v_notes v_inn_minutes v_inn_rooms v_inn_doors v_inn_things v_inn_dreams v_inn_sleepers v_inn_listeners v_inn_names v_other_40 v_inn_how v_inn_lies v_inn_isFull v_inn_bed v_inn_isTold v_inn_act v_inn_then v_inn_what v_inn_doorA v_inn_doorB v_from_40 v_inn_falls v_inn_creak v_inn_listens v_far v_inn_isCold v_inn_met v_fitting_40 v_book v_noteSort v_whose v_what v_noteIs)) (As := [.int 2]) (rest := []) C (ctX12_good l E h h_tape h_far h_from h_real h_other h_kept h_set h_real h_book h_noteSort h_whose h_what h_noteIs h_fitting h_dawn h_likes h_walked h_came 0 v_trouble v_where (some h_inn) v_read v_taped v_size v_at v_sort v_place v_sign v_number v_fault v_wrongAt v_word v_marks v_notes N 2 (r_70, v_trouble_70, v_where_70) hc_70) ml_X12_81 ⟨Nat.le_of_ble_eq_true rfl, Nat.le_of_ble_eq_true rfl⟩ hP hD hS 0 rfl rfl rfl [0] [26, 1, 2, 3, 4, 5, 6, 7, 8, 9, 10, 11, 12, 13, 14, 15, 16, 17, 18, 19, 20, 21, 22, 23, 24, 25] 26 rfl rfl rfl rfl rfl rfl rfl hl.1 rfl (Nat.le_of_ble_eq_true rfl) ⟨Nat.zero_le _, Nat.zero_le _⟩ dX12_verdict_70 ?_
        clear hP hD hS; intro H locs hP hD hS
        cases hf
        rw [hQ]
        exact r_iret C hr hP hD hS rfl dX12_verdict_73
    · replace hf := it_f c_46 hf
      refine lv_iload_n (pc := 49) hx hb dX12_verdict_49 rfl (lv_at hl 0 rfl) ?_
      refine lv_if_le (pc := 50) (tgt := 57) hx hb dX12_verdict_50 (by decide) (fun c_50 => ?_) (fun c_50 => ?_)
      · replace hf := it_t c_50 hf
        refine lv_iconst (pc := 57) (v := 1) hx hb dX12_verdict_57 (by decide) ?_
        refine lv_goto (pc := 58) (tgt := 70) hx hb dX12_verdict_58 (by decide) ?_
        obtain ⟨r_70, v_trouble_70, v_where_70, hc_70, hf⟩ := bd3 hf
        refine r_dalVi (pc := 70) (ws' := (wX12_verdict E h h_inn h_tape h_far h_from h_real h_other h_kept h_set h_book h_noteSort h_whose h_what h_noteIs h_fitting h_dawn h_likes h_walked h_came h_inn_creak h_inn_doorA h_inn_doorB h_inn_how h_inn_lies h_inn_isCold h_inn_falls h_inn_isFull h_inn_isTold h_inn_act h_inn_what h_inn_then h_inn_met h_inn_bed h_inn_dream h_inn_listens h_inn_name h_inn_nameSort h_inn_nameNumber 0 v_trouble_70 v_where_70 v_read v_taped v_size v_at v_sort v_place v_sign v_number v_fault v_wrongAt v_word v_marks v_notes v_inn_minutes v_inn_rooms v_inn_doors v_inn_things v_inn_dreams v_inn_sleepers v_inn_listeners v_inn_names v_other_40 v_inn_how v_inn_lies v_inn_isFull v_inn_bed v_inn_isTold v_inn_act v_inn_then v_inn_what v_inn_doorA v_inn_doorB v_from_40 v_inn_falls v_inn_creak v_inn_listens v_far v_inn_isCold v_inn_met v_fitting_40 v_book v_noteSort v_whose v_what v_noteIs)) (As := [.int 1]) (rest := []) C (ctX12_good l E h h_tape h_far h_from h_real h_other h_kept h_set h_real h_book h_noteSort h_whose h_what h_noteIs h_fitting h_dawn h_likes h_walked h_came 0 v_trouble v_where (some h_inn) v_read v_taped v_size v_at v_sort v_place v_sign v_number v_fault v_wrongAt v_word v_marks v_notes N 1 (r_70, v_trouble_70, v_where_70) hc_70) ml_X12_81 ⟨Nat.le_of_ble_eq_true rfl, Nat.le_of_ble_eq_true rfl⟩ hP hD hS 0 rfl rfl rfl [0] [26, 1, 2, 3, 4, 5, 6, 7, 8, 9, 10, 11, 12, 13, 14, 15, 16, 17, 18, 19, 20, 21, 22, 23, 24, 25] 26 rfl rfl rfl rfl rfl rfl rfl hl.1 rfl (Nat.le_of_ble_eq_true rfl) ⟨Nat.zero_le _, Nat.zero_le _⟩ dX12_verdict_70 ?_
        clear hP hD hS; intro H locs hP hD hS
        cases hf
        rw [hQ]
        exact r_iret C hr hP hD hS rfl dX12_verdict_73
      · replace hf := it_f c_50 hf
        refine lv_iconst (pc := 53) (v := 3) hx hb dX12_verdict_53 (by decide) ?_
        refine lv_goto (pc := 54) (tgt := 70) hx hb dX12_verdict_54 (by decide) ?_
        obtain ⟨r_70, v_trouble_70, v_where_70, hc_70, hf⟩ := bd3 hf
        refine r_dalVi (pc := 70) (ws' := (wX12_verdict E h h_inn h_tape h_far h_from h_real h_other h_kept h_set h_book h_noteSort h_whose h_what h_noteIs h_fitting h_dawn h_likes h_walked h_came h_inn_creak h_inn_doorA h_inn_doorB h_inn_how h_inn_lies h_inn_isCold h_inn_falls h_inn_isFull h_inn_isTold h_inn_act h_inn_what h_inn_then h_inn_met h_inn_bed h_inn_dream h_inn_listens h_inn_name h_inn_nameSort h_inn_nameNumber 0 v_trouble_70 v_where_70 v_read v_taped v_size v_at v_sort v_place v_sign v_number v_fault v_wrongAt v_word v_marks v_notes v_inn_minutes v_inn_rooms v_inn_doors v_inn_things v_inn_dreams v_inn_sleepers v_inn_listeners v_inn_names v_other_40 v_inn_how v_inn_lies v_inn_isFull v_inn_bed v_inn_isTold v_inn_act v_inn_then v_inn_what v_inn_doorA v_inn_doorB v_from_40 v_inn_falls v_inn_creak v_inn_listens v_far v_inn_isCold v_inn_met v_fitting_40 v_book v_noteSort v_whose v_what v_noteIs)) (As := [.int 3]) (rest := []) C (ctX12_good l E h h_tape h_far h_from h_real h_other h_kept h_set h_real h_book h_noteSort h_whose h_what h_noteIs h_fitting h_dawn h_likes h_walked h_came 0 v_trouble v_where (some h_inn) v_read v_taped v_size v_at v_sort v_place v_sign v_number v_fault v_wrongAt v_word v_marks v_notes N 3 (r_70, v_trouble_70, v_where_70) hc_70) ml_X12_81 ⟨Nat.le_of_ble_eq_true rfl, Nat.le_of_ble_eq_true rfl⟩ hP hD hS 0 rfl rfl rfl [0] [26, 1, 2, 3, 4, 5, 6, 7, 8, 9, 10, 11, 12, 13, 14, 15, 16, 17, 18, 19, 20, 21, 22, 23, 24, 25] 26 rfl rfl rfl rfl rfl rfl rfl hl.1 rfl (Nat.le_of_ble_eq_true rfl) ⟨Nat.zero_le _, Nat.zero_le _⟩ dX12_verdict_70 ?_
        clear hP hD hS; intro H locs hP hD hS
        cases hf
        rw [hQ]
        exact r_iret C hr hP hD hS rfl dX12_verdict_73
  · replace hf := it_f c_23 hf
    refine lv_aload_n (pc := 26) hx hb dX12_verdict_26 rfl (lv_at hl 0 rfl) ?_
    refine lv_iconst (pc := 27) (v := 0) hx hb dX12_verdict_27 (by decide) ?_
    obtain ⟨r_28, v_trouble_28, v_where_28, hc_28, hf⟩ := bd3 hf
    refine r_dalVi (pc := 28) (ws' := (wX12_verdict E h h_inn h_tape h_far h_from h_real h_other h_kept h_set h_book h_noteSort h_whose h_what h_noteIs h_fitting h_dawn h_likes h_walked h_came h_inn_creak h_inn_doorA h_inn_doorB h_inn_how h_inn_lies h_inn_isCold h_inn_falls h_inn_isFull h_inn_isTold h_inn_act h_inn_what h_inn_then h_inn_met h_inn_bed h_inn_dream h_inn_listens h_inn_name h_inn_nameSort h_inn_nameNumber 0 v_trouble_28 v_where_28 v_read v_taped v_size v_at v_sort v_place v_sign v_number v_fault v_wrongAt v_word v_marks v_notes v_inn_minutes v_inn_rooms v_inn_doors v_inn_things v_inn_dreams v_inn_sleepers v_inn_listeners v_inn_names v_other_20 v_inn_how v_inn_lies v_inn_isFull v_inn_bed v_inn_isTold v_inn_act v_inn_then v_inn_what v_inn_doorA v_inn_doorB v_from_20 v_inn_falls v_inn_creak v_inn_listens v_far v_inn_isCold v_inn_met v_fitting_20 v_book v_noteSort v_whose v_what v_noteIs)) (As := [.int 0]) (rest := []) C (ctX12_good l E h h_tape h_far h_from h_real h_other h_kept h_set h_real h_book h_noteSort h_whose h_what h_noteIs h_fitting h_dawn h_likes h_walked h_came 0 v_trouble v_where (some h_inn) v_read v_taped v_size v_at v_sort v_place v_sign v_number v_fault v_wrongAt v_word v_marks v_notes N 0 (r_28, v_trouble_28, v_where_28) hc_28) ml_X12_81 ⟨Nat.le_of_ble_eq_true rfl, Nat.le_of_ble_eq_true rfl⟩ hP hD hS 0 rfl rfl rfl [0] [26, 1, 2, 3, 4, 5, 6, 7, 8, 9, 10, 11, 12, 13, 14, 15, 16, 17, 18, 19, 20, 21, 22, 23, 24, 25] 26 rfl rfl rfl rfl rfl rfl rfl hl.1 rfl (Nat.le_of_ble_eq_true rfl) ⟨Nat.zero_le _, Nat.zero_le _⟩ dX12_verdict_28 ?_
    clear hP hD hS; intro H locs hP hD hS
    cases hf
    rw [hQ]
    exact r_iret C hr hP hD hS rfl dX12_verdict_31
def wX12_verdict0 (E : EN) (h h_tape h_far h_from h_real h_other h_kept h_set h_book h_noteSort h_whose h_what h_noteIs h_fitting h_dawn h_likes h_walked h_came : Nat) (v_thrown : Int32) (v_trouble : Int32) (v_where : Int32) (v_read : Option Nat) (v_taped : Int32) (v_size : Int32) (v_at : Int32) (v_sort : Int32) (v_place : Int32) (v_sign : Int32) (v_number : Int32) (v_fault : Int32) (v_wrongAt : Int32) (v_word : Int64) (v_marks : Int32) (v_notes : Int32) : va_W := [(h, .inr (11, [.int v_thrown, .int v_trouble, .int v_where, .null, va_rf v_read, .ref h_tape, .int v_taped, .int v_size, .int v_at, .int v_sort, .int v_place, .int v_sign, .int v_number, .int v_fault, .int v_wrongAt, .long v_word, .ref h_far, .ref h_from, .ref h_real, .ref h_other, .ref h_kept, .ref h_set, .ref h_real, .int v_marks, .int v_notes, .ref h_book, .ref h_noteSort, .ref h_whose, .ref h_what, .ref h_noteIs, .ref h_fitting, .ref h_dawn, .ref h_likes, .ref h_walked, .ref h_came]))]
def fX12_verdict0 (N : Nat) : Option (Int32 × Int32 × Int32 × Int32) := (fX12_refused N 1).bind (un3 fun (r_14 : Int32) (v_trouble_14 : Int32) (v_where_14 : Int32) => some (r_14, 0, v_trouble_14, v_where_14))
set_option maxHeartbeats 4000000 in
set_option maxRecDepth 100000 in
theorem ctX12_verdict0 (l : Launch) (E : EN) (h h_tape h_far h_from h_real h_other h_kept h_set h_book h_noteSort h_whose h_what h_noteIs h_fitting h_dawn h_likes h_walked h_came : Nat) (v_thrown : Int32) (v_trouble : Int32) (v_where : Int32) (v_read : Option Nat) (v_taped : Int32) (v_size : Int32) (v_at : Int32) (v_sort : Int32) (v_place : Int32) (v_sign : Int32) (v_number : Int32) (v_fault : Int32) (v_wrongAt : Int32) (v_word : Int64) (v_marks : Int32) (v_notes : Int32) (N : Nat) (z : Int32 × Int32 × Int32 × Int32) (hf : fX12_verdict0 N  = some z) : CTi l E yX12_verdict cX12_verdict 3 .int 1 21 [.ref h] (wX12_verdict0 E h h_tape h_far h_from h_real h_other h_kept h_set h_book h_noteSort h_whose h_what h_noteIs h_fitting h_dawn h_likes h_walked h_came v_thrown v_trouble v_where v_read v_taped v_size v_at v_sort v_place v_sign v_number v_fault v_wrongAt v_word v_marks v_notes) (z.1) (wX12_verdict0 E h h_tape h_far h_from h_real h_other h_kept h_set h_book h_noteSort h_whose h_what h_noteIs h_fitting h_dawn h_likes h_walked h_came z.2.1 z.2.2.1 z.2.2.2 v_read v_taped v_size v_at v_sort v_place v_sign v_number v_fault v_wrongAt v_word v_marks v_notes) := by
  intro sz
  refine ct_body (by decide) (Nat.le_of_ble_eq_true rfl) ?_
  intro p e s m args below meth c A ls hAe C hr hin hP hD hS hl
  have C : CX p s m args meth c cX12_verdict RX12 3 E A := C
  have hl : lv_has ls 3 [(0, .ref h)] := hl
  have hx := C.1
  have hb := C.2.1
  rw [hAe]
  clear hAe
  obtain ⟨Q, hQ⟩ : ∃ Q, Q = MQ below (Qi E A (z.1) (wX12_verdict0 E h h_tape h_far h_from h_real h_other h_kept h_set h_book h_noteSort h_whose h_what h_noteIs h_fitting h_dawn h_likes h_walked h_came z.2.1 z.2.2.1 z.2.2.2 v_read v_taped v_size v_at v_sort v_place v_sign v_number v_fault v_wrongAt v_word v_marks v_notes)) args s 0 0 A := ⟨_, rfl⟩
  rw [← hQ]
  unfold fX12_verdict0 at hf
  refine lv_aload_n (pc := 0) hx hb dX12_verdict_0 rfl (lv_at hl 0 rfl) ?_
  refine lv_iconst (pc := 1) (v := 0) hx hb dX12_verdict_1 (by decide) ?_
  refine r_put (pc := 2) (ws' := (wX12_verdict0 E h h_tape h_far h_from h_real h_other h_kept h_set h_book h_noteSort h_whose h_what h_noteIs h_fitting h_dawn h_likes h_walked h_came 0 v_trouble v_where v_read v_taped v_size v_at v_sort v_place v_sign v_number v_fault v_wrongAt v_word v_marks v_notes)) C hP hD hS 0 rfl fl_X12_71 rfl rfl (Nat.le_of_ble_eq_true rfl) rfl dX12_verdict_2 ?_
  clear hP hD hS; intro H locs hP hD hS
  refine lv_aload_n (pc := 5) hx hb dX12_verdict_5 rfl (lv_at hl 0 rfl) ?_
  refine r_get (pc := 6) C hP 0 rfl fl_X12_358 rfl dX12_verdict_6 ?_
  refine lv_ifnonnullN (pc := 9) hx hb dX12_verdict_9 ?_
  refine lv_aload_n (pc := 12) hx hb dX12_verdict_12 rfl (lv_at hl 0 rfl) ?_
  refine lv_iconst (pc := 13) (v := 1) hx hb dX12_verdict_13 (by decide) ?_
  obtain ⟨r_14, v_trouble_14, v_where_14, hc_14, hf⟩ := bd3 hf
  refine r_dalVi (pc := 14) (ws' := (wX12_verdict0 E h h_tape h_far h_from h_real h_other h_kept h_set h_book h_noteSort h_whose h_what h_noteIs h_fitting h_dawn h_likes h_walked h_came 0 v_trouble_14 v_where_14 v_read v_taped v_size v_at v_sort v_place v_sign v_number v_fault v_wrongAt v_word v_marks v_notes)) (As := [.int 1]) (rest := []) C (ctX12_refused l E h h_tape h_far h_from h_real h_other h_kept h_set h_real h_book h_noteSort h_whose h_what h_noteIs h_fitting h_dawn h_likes h_walked h_came 0 v_trouble v_where none v_read v_taped v_size v_at v_sort v_place v_sign v_number v_fault v_wrongAt v_word v_marks v_notes N 1 (r_14, v_trouble_14, v_where_14) hc_14) ml_X12_77 ⟨Nat.le_of_ble_eq_true rfl, Nat.le_of_ble_eq_true rfl⟩ hP hD hS 0 rfl rfl rfl [0] [1] 1 rfl rfl rfl rfl rfl rfl rfl hl.1 rfl (Nat.le_of_ble_eq_true rfl) ⟨Nat.zero_le _, Nat.zero_le _⟩ dX12_verdict_14 ?_
  clear hP hD hS; intro H locs hP hD hS
  cases hf
  rw [hQ]
  exact r_iret C hr hP hD hS rfl dX12_verdict_17
def wX12_dawns (E : EN) (h h_inn h_tape h_far h_from h_real h_other h_kept h_set h_w h_book h_noteSort h_whose h_what h_noteIs h_fitting h_dawn h_likes h_walked h_came h_inn_creak h_inn_doorA h_inn_doorB h_inn_how h_inn_lies h_inn_isCold h_inn_falls h_inn_isFull h_inn_isTold h_inn_act h_inn_what h_inn_then h_inn_met h_inn_bed h_inn_dream h_inn_listens h_inn_name h_inn_nameSort h_inn_nameNumber : Nat) (v_thrown : Int32) (v_trouble : Int32) (v_where : Int32) (v_read : Option Nat) (v_taped : Int32) (v_size : Int32) (v_at : Int32) (v_sort : Int32) (v_place : Int32) (v_sign : Int32) (v_number : Int32) (v_fault : Int32) (v_wrongAt : Int32) (v_word : Int64) (v_marks : Int32) (v_notes : Int32) (v_inn_minutes : Int32) (v_inn_rooms : Int32) (v_inn_doors : Int32) (v_inn_things : Int32) (v_inn_dreams : Int32) (v_inn_sleepers : Int32) (v_inn_listeners : Int32) (v_inn_names : Int32) (v_w : Nat → Int32) (v_inn_how : Nat → Int32) (v_inn_lies : Nat → Int32) (v_inn_isFull : Nat → Int32) (v_inn_bed : Nat → Int32) (v_inn_isTold : Nat → Int32) (v_inn_act : Nat → Int32) (v_inn_then : Nat → Int32) (v_inn_what : Nat → Int32) (v_inn_doorA : Nat → Int32) (v_inn_doorB : Nat → Int32) (v_from : Nat → Int32) (v_inn_falls : Nat → Int32) (v_inn_creak : Nat → Int32) (v_inn_listens : Nat → Int32) (v_far : Nat → Int32) (v_inn_isCold : Nat → Int32) (v_inn_met : Nat → Int32) (v_dawn : Nat → Int32) : va_W := [(h, .inr (11, [.int v_thrown, .int v_trouble, .int v_where, .ref h_inn, va_rf v_read, .ref h_tape, .int v_taped, .int v_size, .int v_at, .int v_sort, .int v_place, .int v_sign, .int v_number, .int v_fault, .int v_wrongAt, .long v_word, .ref h_far, .ref h_from, .ref h_real, .ref h_other, .ref h_kept, .ref h_set, .ref h_w, .int v_marks, .int v_notes, .ref h_book, .ref h_noteSort, .ref h_whose, .ref h_what, .ref h_noteIs, .ref h_fitting, .ref h_dawn, .ref h_likes, .ref h_walked, .ref h_came])), (h_inn, .inr (10, [.int v_inn_minutes, .int v_inn_rooms, .int v_inn_doors, .int v_inn_things, .int v_inn_dreams, .int v_inn_sleepers, .int v_inn_listeners, .int v_inn_names, .ref h_inn_creak, .ref h_inn_doorA, .ref h_inn_doorB, .ref h_inn_how, .ref h_inn_lies, .ref h_inn_isCold, .ref h_inn_falls, .ref h_inn_isFull, .ref h_inn_isTold, .ref h_inn_act, .ref h_inn_what, .ref h_inn_then, .ref h_inn_met, .ref h_inn_bed, .ref h_inn_dream, .ref h_inn_listens, .ref h_inn_name, .ref h_inn_nameSort, .ref h_inn_nameNumber])), (h_w, aI E 51 v_w), (h_inn_how, aI E 10 v_inn_how), (h_inn_lies, aI E 4 v_inn_lies), (h_inn_isFull, aZ E 4 v_inn_isFull), (h_inn_bed, aI E 3 v_inn_bed), (h_inn_isTold, aZ E 16 v_inn_isTold), (h_inn_act, aI E 16 v_inn_act), (h_inn_then, aI E 16 v_inn_then), (h_inn_what, aI E 16 v_inn_what), (h_inn_doorA, aI E 10 v_inn_doorA), (h_inn_doorB, aI E 10 v_inn_doorB), (h_from, aI E 8 v_from), (h_inn_falls, aZ E 10 v_inn_falls), (h_inn_creak, aI E 8 v_inn_creak), (h_inn_listens, aI E 3 v_inn_listens), (h_far, aI E 64 v_far), (h_inn_isCold, aZ E 8 v_inn_isCold), (h_inn_met, aI E 16 v_inn_met), (h_dawn, aI E 3840 v_dawn)]
def BX12_dawns_163 (v_w_9 : Nat → Int32) (v_from_9 : Nat → Int32) (rec163 : (Int32 × Int32 × (Nat → Int32)) → Option ((Nat → Int32) × (Nat → Int32) × (Nat → Int32))) : (Int32 × Int32 × (Nat → Int32)) → Option ((Nat → Int32) × (Nat → Int32) × (Nat → Int32)) := un3 fun (x163_4 : Int32) (x163_5 : Int32) (x163_dawn : Nat → Int32) => if 3 ≤ x163_5 then (some (v_w_9, v_from_9, x163_dawn)) else (gd (9 + x163_5) 51 (gd x163_4 3840 (rec163 (x163_4 + 1, x163_5 + 1, upd x163_dawn x163_4.toNatClampNeg (v_w_9 (9 + x163_5).toNatClampNeg)))))
def BX12_dawns_129 (v_w_9 : Nat → Int32) (K160 : (Int32 × (Nat → Int32)) → Option ((Nat → Int32) × (Nat → Int32) × (Nat → Int32))) (rec129 : (Int32 × Int32 × (Nat → Int32)) → Option ((Nat → Int32) × (Nat → Int32) × (Nat → Int32))) : (Int32 × Int32 × (Nat → Int32)) → Option ((Nat → Int32) × (Nat → Int32) × (Nat → Int32)) := un3 fun (x129_4 : Int32) (x129_5 : Int32) (x129_dawn : Nat → Int32) => if 3 ≤ x129_5 then (K160 (x129_4, x129_dawn)) else (gd (0 + x129_5) 51 (gd x129_4 3840 (rec129 (x129_4 + 1, x129_5 + 1, upd x129_dawn x129_4.toNatClampNeg (v_w_9 (0 + x129_5).toNatClampNeg)))))
def BX12_dawns_93 (v_w_9 : Nat → Int32) (K126 : (Int32 × (Nat → Int32)) → Option ((Nat → Int32) × (Nat → Int32) × (Nat → Int32))) (rec93 : (Int32 × Int32 × (Nat → Int32)) → Option ((Nat → Int32) × (Nat → Int32) × (Nat → Int32))) : (Int32 × Int32 × (Nat → Int32)) → Option ((Nat → Int32) × (Nat → Int32) × (Nat → Int32)) := un3 fun (x93_4 : Int32) (x93_5 : Int32) (x93_dawn : Nat → Int32) => if 10 ≤ x93_5 then (K126 (x93_4, x93_dawn)) else (gd (23 + x93_5) 51 (gd x93_4 3840 (rec93 (x93_4 + 1, x93_5 + 1, upd x93_dawn x93_4.toNatClampNeg (v_w_9 (23 + x93_5).toNatClampNeg)))))
def BX12_dawns_57 (v_w_9 : Nat → Int32) (K90 : (Int32 × (Nat → Int32)) → Option ((Nat → Int32) × (Nat → Int32) × (Nat → Int32))) (rec57 : (Int32 × Int32 × (Nat → Int32)) → Option ((Nat → Int32) × (Nat → Int32) × (Nat → Int32))) : (Int32 × Int32 × (Nat → Int32)) → Option ((Nat → Int32) × (Nat → Int32) × (Nat → Int32)) := un3 fun (x57_4 : Int32) (x57_5 : Int32) (x57_dawn : Nat → Int32) => if 8 ≤ x57_5 then (K90 (x57_4, x57_dawn)) else (gd (15 + x57_5) 51 (gd x57_4 3840 (rec57 (x57_4 + 1, x57_5 + 1, upd x57_dawn x57_4.toNatClampNeg (v_w_9 (15 + x57_5).toNatClampNeg)))))
def BX12_dawns_21 (v_w_9 : Nat → Int32) (K54 : (Int32 × (Nat → Int32)) → Option ((Nat → Int32) × (Nat → Int32) × (Nat → Int32))) (rec21 : (Int32 × Int32 × (Nat → Int32)) → Option ((Nat → Int32) × (Nat → Int32) × (Nat → Int32))) : (Int32 × Int32 × (Nat → Int32)) → Option ((Nat → Int32) × (Nat → Int32) × (Nat → Int32)) := un3 fun (x21_4 : Int32) (x21_5 : Int32) (x21_dawn : Nat → Int32) => if 6 ≤ x21_5 then (K54 (x21_4, x21_dawn)) else (gd (43 + x21_5) 51 (gd x21_4 3840 (rec21 (x21_4 + 1, x21_5 + 1, upd x21_dawn x21_4.toNatClampNeg (v_w_9 (43 + x21_5).toNatClampNeg)))))
def fX12_dawns (N : Nat) (p0 : Int32) (p1 : Int32) (p2 : Int32) (v_inn_minutes : Int32) (v_inn_rooms : Int32) (v_inn_doors : Int32) (v_inn_things : Int32) (v_inn_dreams : Int32) (v_inn_sleepers : Int32) (v_inn_listeners : Int32) (v_w : Nat → Int32) (v_inn_how : Nat → Int32) (v_inn_lies : Nat → Int32) (v_inn_isFull : Nat → Int32) (v_inn_bed : Nat → Int32) (v_inn_isTold : Nat → Int32) (v_inn_act : Nat → Int32) (v_inn_then : Nat → Int32) (v_inn_what : Nat → Int32) (v_inn_doorA : Nat → Int32) (v_inn_doorB : Nat → Int32) (v_from : Nat → Int32) (v_inn_falls : Nat → Int32) (v_inn_creak : Nat → Int32) (v_inn_listens : Nat → Int32) (v_far : Nat → Int32) (v_inn_isCold : Nat → Int32) (v_inn_met : Nat → Int32) (v_dawn : Nat → Int32) : Option ((Nat → Int32) × (Nat → Int32) × (Nat → Int32)) := (fX12_casts N p0 v_inn_dreams v_inn_sleepers v_w).bind (un1 fun (v_w_2 : Nat → Int32) => (fX12_plays N p1 40 v_inn_minutes v_inn_rooms v_inn_doors v_inn_things v_inn_sleepers v_inn_listeners v_w_2 v_inn_how v_inn_lies v_inn_isFull v_inn_bed v_inn_isTold v_inn_act v_inn_then v_inn_what v_inn_doorA v_inn_doorB v_from v_inn_falls v_inn_creak v_inn_listens v_far v_inn_isCold v_inn_met).bind (un2 fun (v_w_9 : Nat → Int32) (v_from_9 : Nat → Int32) => lp (BX12_dawns_21 v_w_9 (un2 fun (x54_4 : Int32) (x54_dawn : Nat → Int32) => lp (BX12_dawns_57 v_w_9 (un2 fun (x90_4 : Int32) (x90_dawn : Nat → Int32) => lp (BX12_dawns_93 v_w_9 (un2 fun (x126_4 : Int32) (x126_dawn : Nat → Int32) => lp (BX12_dawns_129 v_w_9 (un2 fun (x160_4 : Int32) (x160_dawn : Nat → Int32) => lp (BX12_dawns_163 v_w_9 v_from_9) N (x160_4, 0, x160_dawn))) N (x126_4, 0, x126_dawn))) N (x90_4, 0, x90_dawn))) N (x54_4, 0, x54_dawn))) N (p2 * 30, 0, v_dawn)))
set_option maxHeartbeats 4000000 in
set_option maxRecDepth 100000 in
theorem ctX12_dawns (l : Launch) (E : EN) (h h_inn h_tape h_far h_from h_real h_other h_kept h_set h_w h_book h_noteSort h_whose h_what h_noteIs h_fitting h_dawn h_likes h_walked h_came h_inn_creak h_inn_doorA h_inn_doorB h_inn_how h_inn_lies h_inn_isCold h_inn_falls h_inn_isFull h_inn_isTold h_inn_act h_inn_what h_inn_then h_inn_met h_inn_bed h_inn_dream h_inn_listens h_inn_name h_inn_nameSort h_inn_nameNumber : Nat) (v_thrown : Int32) (v_trouble : Int32) (v_where : Int32) (v_read : Option Nat) (v_taped : Int32) (v_size : Int32) (v_at : Int32) (v_sort : Int32) (v_place : Int32) (v_sign : Int32) (v_number : Int32) (v_fault : Int32) (v_wrongAt : Int32) (v_word : Int64) (v_marks : Int32) (v_notes : Int32) (v_inn_minutes : Int32) (v_inn_rooms : Int32) (v_inn_doors : Int32) (v_inn_things : Int32) (v_inn_dreams : Int32) (v_inn_sleepers : Int32) (v_inn_listeners : Int32) (v_inn_names : Int32) (v_w : Nat → Int32) (v_inn_how : Nat → Int32) (v_inn_lies : Nat → Int32) (v_inn_isFull : Nat → Int32) (v_inn_bed : Nat → Int32) (v_inn_isTold : Nat → Int32) (v_inn_act : Nat → Int32) (v_inn_then : Nat → Int32) (v_inn_what : Nat → Int32) (v_inn_doorA : Nat → Int32) (v_inn_doorB : Nat → Int32) (v_from : Nat → Int32) (v_inn_falls : Nat → Int32) (v_inn_creak : Nat → Int32) (v_inn_listens : Nat → Int32) (v_far : Nat → Int32) (v_inn_isCold : Nat → Int32) (v_inn_met : Nat → Int32) (v_dawn : Nat → Int32) (N : Nat) (p0 : Int32) (p1 : Int32) (p2 : Int32) (z : (Nat → Int32) × (Nat → Int32) × (Nat → Int32)) (hf : fX12_dawns N p0 p1 p2 v_inn_minutes v_inn_rooms v_inn_doors v_inn_things v_inn_dreams v_inn_sleepers v_inn_listeners v_w v_inn_how v_inn_lies v_inn_isFull v_inn_bed v_inn_isTold v_inn_act v_inn_then v_inn_what v_inn_doorA v_inn_doorB v_from v_inn_falls v_inn_creak v_inn_listens v_far v_inn_isCold v_inn_met v_dawn = some z) : CTv l E yX12_dawns cX12_dawns 6 7 160 [.ref h, .int p0, .int p1, .int p2] (wX12_dawns E h h_inn h_tape h_far h_from h_real h_other h_kept h_set h_w h_book h_noteSort h_whose h_what h_noteIs h_fitting h_dawn h_likes h_walked h_came h_inn_creak h_inn_doorA h_inn_doorB h_inn_how h_inn_lies h_inn_isCold h_inn_falls h_inn_isFull h_inn_isTold h_inn_act h_inn_what h_inn_then h_inn_met h_inn_bed h_inn_dream h_inn_listens h_inn_name h_inn_nameSort h_inn_nameNumber v_thrown v_trouble v_where v_read v_taped v_size v_at v_sort v_place v_sign v_number v_fault v_wrongAt v_word v_marks v_notes v_inn_minutes v_inn_rooms v_inn_doors v_inn_things v_inn_dreams v_inn_sleepers v_inn_listeners v_inn_names v_w v_inn_how v_inn_lies v_inn_isFull v_inn_bed v_inn_isTold v_inn_act v_inn_then v_inn_what v_inn_doorA v_inn_doorB v_from v_inn_falls v_inn_creak v_inn_listens v_far v_inn_isCold v_inn_met v_dawn) (wX12_dawns E h h_inn h_tape h_far h_from h_real h_other h_kept h_set h_w h_book h_noteSort h_whose h_what h_noteIs h_fitting h_dawn h_likes h_walked h_came h_inn_creak h_inn_doorA h_inn_doorB h_inn_how h_inn_lies h_inn_isCold h_inn_falls h_inn_isFull h_inn_isTold h_inn_act h_inn_what h_inn_then h_inn_met h_inn_bed h_inn_dream h_inn_listens h_inn_name h_inn_nameSort h_inn_nameNumber v_thrown v_trouble v_where v_read v_taped v_size v_at v_sort v_place v_sign v_number v_fault v_wrongAt v_word v_marks v_notes v_inn_minutes v_inn_rooms v_inn_doors v_inn_things v_inn_dreams v_inn_sleepers v_inn_listeners v_inn_names z.1 v_inn_how v_inn_lies v_inn_isFull v_inn_bed v_inn_isTold v_inn_act v_inn_then v_inn_what v_inn_doorA v_inn_doorB z.2.1 v_inn_falls v_inn_creak v_inn_listens v_far v_inn_isCold v_inn_met z.2.2) := by
  intro sz
  refine ct_body (by decide) (Nat.le_of_ble_eq_true rfl) ?_
  intro p e s m args below meth c A ls hAe C hr hin hP hD hS hl
  have C : CX p s m args meth c cX12_dawns RX12 6 E A := C
  have hl : lv_has ls 6 [(0, .ref h), (1, .int p0), (2, .int p1), (3, .int p2)] := hl
  have hx := C.1
  have hb := C.2.1
  rw [hAe]
  clear hAe
  obtain ⟨Q, hQ⟩ : ∃ Q, Q = MQ below (Qv E A (wX12_dawns E h h_inn h_tape h_far h_from h_real h_other h_kept h_set h_w h_book h_noteSort h_whose h_what h_noteIs h_fitting h_dawn h_likes h_walked h_came h_inn_creak h_inn_doorA h_inn_doorB h_inn_how h_inn_lies h_inn_isCold h_inn_falls h_inn_isFull h_inn_isTold h_inn_act h_inn_what h_inn_then h_inn_met h_inn_bed h_inn_dream h_inn_listens h_inn_name h_inn_nameSort h_inn_nameNumber v_thrown v_trouble v_where v_read v_taped v_size v_at v_sort v_place v_sign v_number v_fault v_wrongAt v_word v_marks v_notes v_inn_minutes v_inn_rooms v_inn_doors v_inn_things v_inn_dreams v_inn_sleepers v_inn_listeners v_inn_names z.1 v_inn_how v_inn_lies v_inn_isFull v_inn_bed v_inn_isTold v_inn_act v_inn_then v_inn_what v_inn_doorA v_inn_doorB z.2.1 v_inn_falls v_inn_creak v_inn_listens v_far v_inn_isCold v_inn_met z.2.2)) args s 0 0 A := ⟨_, rfl⟩
  rw [← hQ]
  unfold fX12_dawns at hf
  refine lv_aload_n (pc := 0) hx hb dX12_dawns_0 rfl (lv_at hl 0 rfl) ?_
  refine lv_iload_n (pc := 1) hx hb dX12_dawns_1 rfl (lv_at hl 1 rfl) ?_
  obtain ⟨v_w_2, hc_2, hf⟩ := bd1 hf
  refine r_dalVv (pc := 2) (ws' := (wX12_dawns E h h_inn h_tape h_far h_from h_real h_other h_kept h_set h_w h_book h_noteSort h_whose h_what h_noteIs h_fitting h_dawn h_likes h_walked h_came h_inn_creak h_inn_doorA h_inn_doorB h_inn_how h_inn_lies h_inn_isCold h_inn_falls h_inn_isFull h_inn_isTold h_inn_act h_inn_what h_inn_then h_inn_met h_inn_bed h_inn_dream h_inn_listens h_inn_name h_inn_nameSort h_inn_nameNumber v_thrown v_trouble v_where v_read v_taped v_size v_at v_sort v_place v_sign v_number v_fault v_wrongAt v_word v_marks v_notes v_inn_minutes v_inn_rooms v_inn_doors v_inn_things v_inn_dreams v_inn_sleepers v_inn_listeners v_inn_names v_w_2 v_inn_how v_inn_lies v_inn_isFull v_inn_bed v_inn_isTold v_inn_act v_inn_then v_inn_what v_inn_doorA v_inn_doorB v_from v_inn_falls v_inn_creak v_inn_listens v_far v_inn_isCold v_inn_met v_dawn)) (As := [.int p0]) (rest := []) C (ctX12_casts l E h h_inn h_tape h_far h_from h_real h_other h_kept h_set h_w h_book h_noteSort h_whose h_what h_noteIs h_fitting h_dawn h_likes h_walked h_came h_inn_creak h_inn_doorA h_inn_doorB h_inn_how h_inn_lies h_inn_isCold h_inn_falls h_inn_isFull h_inn_isTold h_inn_act h_inn_what h_inn_then h_inn_met h_inn_bed h_inn_dream h_inn_listens h_inn_name h_inn_nameSort h_inn_nameNumber v_thrown v_trouble v_where v_read v_taped v_size v_at v_sort v_place v_sign v_number v_fault v_wrongAt v_word v_marks v_notes v_inn_minutes v_inn_rooms v_inn_doors v_inn_things v_inn_dreams v_inn_sleepers v_inn_listeners v_inn_names v_w N p0 v_w_2 hc_2) ml_X12_455 ⟨Nat.le_of_ble_eq_true rfl, Nat.le_of_ble_eq_true rfl⟩ hP hD hS 0 rfl rfl rfl [0, 1, 2] [21, 22, 23, 3, 4, 5, 6, 7, 8, 9, 10, 11, 12, 13, 14, 15, 16, 17, 18, 19, 20] 21 rfl rfl rfl rfl rfl rfl rfl hl.1 rfl (Nat.le_of_ble_eq_true rfl) ⟨Nat.zero_le _, Nat.zero_le _⟩ dX12_dawns_2 ?_
  clear hP hD hS; intro H locs hP hD hS
  refine lv_aload_n (pc := 5) hx hb dX12_dawns_5 rfl (lv_at hl 0 rfl) ?_
  refine lv_iload_n (pc := 6) hx hb dX12_dawns_6 rfl (lv_at hl 2 rfl) ?_
  refine lv_bipush (pc := 7) (v := 40) hx hb dX12_dawns_7 (by decide) ?_
  obtain ⟨v_w_9, v_from_9, hc_9, hf⟩ := bd2 hf
  refine r_dalVv (pc := 9) (ws' := (wX12_dawns E h h_inn h_tape h_far h_from h_real h_other h_kept h_set h_w h_book h_noteSort h_whose h_what h_noteIs h_fitting h_dawn h_likes h_walked h_came h_inn_creak h_inn_doorA h_inn_doorB h_inn_how h_inn_lies h_inn_isCold h_inn_falls h_inn_isFull h_inn_isTold h_inn_act h_inn_what h_inn_then h_inn_met h_inn_bed h_inn_dream h_inn_listens h_inn_name h_inn_nameSort h_inn_nameNumber v_thrown v_trouble v_where v_read v_taped v_size v_at v_sort v_place v_sign v_number v_fault v_wrongAt v_word v_marks v_notes v_inn_minutes v_inn_rooms v_inn_doors v_inn_things v_inn_dreams v_inn_sleepers v_inn_listeners v_inn_names v_w_9 v_inn_how v_inn_lies v_inn_isFull v_inn_bed v_inn_isTold v_inn_act v_inn_then v_inn_what v_inn_doorA v_inn_doorB v_from_9 v_inn_falls v_inn_creak v_inn_listens v_far v_inn_isCold v_inn_met v_dawn)) (As := [.int p1, .int 40]) (rest := []) C (ctX12_plays l E h h_inn h_tape h_far h_from h_real h_other h_kept h_set h_w h_book h_noteSort h_whose h_what h_noteIs h_fitting h_dawn h_likes h_walked h_came h_inn_creak h_inn_doorA h_inn_doorB h_inn_how h_inn_lies h_inn_isCold h_inn_falls h_inn_isFull h_inn_isTold h_inn_act h_inn_what h_inn_then h_inn_met h_inn_bed h_inn_dream h_inn_listens h_inn_name h_inn_nameSort h_inn_nameNumber v_thrown v_trouble v_where v_read v_taped v_size v_at v_sort v_place v_sign v_number v_fault v_wrongAt v_word v_marks v_notes v_inn_minutes v_inn_rooms v_inn_doors v_inn_things v_inn_dreams v_inn_sleepers v_inn_listeners v_inn_names v_w_2 v_inn_how v_inn_lies v_inn_isFull v_inn_bed v_inn_isTold v_inn_act v_inn_then v_inn_what v_inn_doorA v_inn_doorB v_from v_inn_falls v_inn_creak v_inn_listens v_far v_inn_isCold v_inn_met N p1 40 (v_w_9, v_from_9) hc_9) ml_X12_442 ⟨Nat.le_of_ble_eq_true rfl, Nat.le_of_ble_eq_true rfl⟩ hP hD hS 0 rfl rfl rfl [0, 1, 2, 3, 4, 5, 6, 7, 8, 9, 10, 11, 12, 13, 14, 15, 16, 17, 18, 19] [21, 22, 23, 24, 25, 26, 27, 28, 29, 30, 31, 32, 33, 34, 35, 36, 37, 38, 39, 40, 20] 21 rfl rfl rfl rfl rfl rfl rfl hl.1 rfl (Nat.le_of_ble_eq_true rfl) ⟨Nat.zero_le _, Nat.zero_le _⟩ dX12_dawns_9 ?_
  clear hP hD hS; intro H locs hP hD hS
  refine lv_iload_n (pc := 12) hx hb dX12_dawns_12 rfl (lv_at hl 3 rfl) ?_
  refine lv_bipush (pc := 13) (v := 30) hx hb dX12_dawns_13 (by decide) ?_
  refine lv_imul (pc := 15) hx hb dX12_dawns_15 ?_
  refine lv_istore (pc := 16) (lv' := [(4, .int (p2 * 30)), (0, .ref h), (1, .int p0), (2, .int p1), (3, .int p2)]) hx hb dX12_dawns_16 hl (by decide) rfl (fun ls hl => ?_)
  refine lv_iconst (pc := 18) (v := 0) hx hb dX12_dawns_18 (by decide) ?_
  refine lv_istore (pc := 19) (lv' := [(5, .int 0), (4, .int (p2 * 30)), (0, .ref h), (1, .int p0), (2, .int p1), (3, .int p2)]) hx hb dX12_dawns_19 hl (by decide) rfl (fun ls hl => ?_)
  refine lpK hf (fun K54 eK54 hf => ?_)
  have hK54 : ∀ (x54_4 : Int32) (x54_dawn : Nat → Int32) , K54 (x54_4, x54_dawn) = some z → AT p l e (rmOf 7 160) s m args below meth c E A Q 0 0 6 [(0, .ref h), (4, .int x54_4)] (wX12_dawns E h h_inn h_tape h_far h_from h_real h_other h_kept h_set h_w h_book h_noteSort h_whose h_what h_noteIs h_fitting h_dawn h_likes h_walked h_came h_inn_creak h_inn_doorA h_inn_doorB h_inn_how h_inn_lies h_inn_isCold h_inn_falls h_inn_isFull h_inn_isTold h_inn_act h_inn_what h_inn_then h_inn_met h_inn_bed h_inn_dream h_inn_listens h_inn_name h_inn_nameSort h_inn_nameNumber v_thrown v_trouble v_where v_read v_taped v_size v_at v_sort v_place v_sign v_number v_fault v_wrongAt v_word v_marks v_notes v_inn_minutes v_inn_rooms v_inn_doors v_inn_things v_inn_dreams v_inn_sleepers v_inn_listeners v_inn_names v_w_9 v_inn_how v_inn_lies v_inn_isFull v_inn_bed v_inn_isTold v_inn_act v_inn_then v_inn_what v_inn_doorA v_inn_doorB v_from_9 v_inn_falls v_inn_creak v_inn_listens v_far v_inn_isCold v_inn_met x54_dawn) 54 [] := by
    intro x54_4 x54_dawn hf H locs ls hl hP hD hS
    rw [eK54] at hf
    replace hf := un2_s hf
    refine lv_iconst (pc := 54) (v := 0) hx hb dX12_dawns_54 (by decide) ?_
    refine lv_istore (pc := 55) (lv' := [(5, .int 0), (0, .ref h), (4, .int x54_4)]) hx hb dX12_dawns_55 hl (by decide) rfl (fun ls hl => ?_)
    refine lpK hf (fun K90 eK90 hf => ?_)
    have hK90 : ∀ (x90_4 : Int32) (x90_dawn : Nat → Int32) , K90 (x90_4, x90_dawn) = some z → AT p l e (rmOf 7 160) s m args below meth c E A Q 0 0 6 [(0, .ref h), (4, .int x90_4)] (wX12_dawns E h h_inn h_tape h_far h_from h_real h_other h_kept h_set h_w h_book h_noteSort h_whose h_what h_noteIs h_fitting h_dawn h_likes h_walked h_came h_inn_creak h_inn_doorA h_inn_doorB h_inn_how h_inn_lies h_inn_isCold h_inn_falls h_inn_isFull h_inn_isTold h_inn_act h_inn_what h_inn_then h_inn_met h_inn_bed h_inn_dream h_inn_listens h_inn_name h_inn_nameSort h_inn_nameNumber v_thrown v_trouble v_where v_read v_taped v_size v_at v_sort v_place v_sign v_number v_fault v_wrongAt v_word v_marks v_notes v_inn_minutes v_inn_rooms v_inn_doors v_inn_things v_inn_dreams v_inn_sleepers v_inn_listeners v_inn_names v_w_9 v_inn_how v_inn_lies v_inn_isFull v_inn_bed v_inn_isTold v_inn_act v_inn_then v_inn_what v_inn_doorA v_inn_doorB v_from_9 v_inn_falls v_inn_creak v_inn_listens v_far v_inn_isCold v_inn_met x90_dawn) 90 [] := by
      intro x90_4 x90_dawn hf H locs ls hl hP hD hS
      rw [eK90] at hf
      replace hf := un2_s hf
      refine lv_iconst (pc := 90) (v := 0) hx hb dX12_dawns_90 (by decide) ?_
      refine lv_istore (pc := 91) (lv' := [(5, .int 0), (0, .ref h), (4, .int x90_4)]) hx hb dX12_dawns_91 hl (by decide) rfl (fun ls hl => ?_)
      refine lpK hf (fun K126 eK126 hf => ?_)
      have hK126 : ∀ (x126_4 : Int32) (x126_dawn : Nat → Int32) , K126 (x126_4, x126_dawn) = some z → AT p l e (rmOf 7 160) s m args below meth c E A Q 0 0 6 [(0, .ref h), (4, .int x126_4)] (wX12_dawns E h h_inn h_tape h_far h_from h_real h_other h_kept h_set h_w h_book h_noteSort h_whose h_what h_noteIs h_fitting h_dawn h_likes h_walked h_came h_inn_creak h_inn_doorA h_inn_doorB h_inn_how h_inn_lies h_inn_isCold h_inn_falls h_inn_isFull h_inn_isTold h_inn_act h_inn_what h_inn_then h_inn_met h_inn_bed h_inn_dream h_inn_listens h_inn_name h_inn_nameSort h_inn_nameNumber v_thrown v_trouble v_where v_read v_taped v_size v_at v_sort v_place v_sign v_number v_fault v_wrongAt v_word v_marks v_notes v_inn_minutes v_inn_rooms v_inn_doors v_inn_things v_inn_dreams v_inn_sleepers v_inn_listeners v_inn_names v_w_9 v_inn_how v_inn_lies v_inn_isFull v_inn_bed v_inn_isTold v_inn_act v_inn_then v_inn_what v_inn_doorA v_inn_doorB v_from_9 v_inn_falls v_inn_creak v_inn_listens v_far v_inn_isCold v_inn_met x126_dawn) 126 [] := by
        intro x126_4 x126_dawn hf H locs ls hl hP hD hS
        rw [eK126] at hf
        replace hf := un2_s hf
        refine lv_iconst (pc := 126) (v := 0) hx hb dX12_dawns_126 (by decide) ?_
        refine lv_istore (pc := 127) (lv' := [(5, .int 0), (0, .ref h), (4, .int x126_4)]) hx hb dX12_dawns_127 hl (by decide) rfl (fun ls hl => ?_)
        refine lpK hf (fun K160 eK160 hf => ?_)
        have hK160 : ∀ (x160_4 : Int32) (x160_dawn : Nat → Int32) , K160 (x160_4, x160_dawn) = some z → AT p l e (rmOf 7 160) s m args below meth c E A Q 0 0 6 [(0, .ref h), (4, .int x160_4)] (wX12_dawns E h h_inn h_tape h_far h_from h_real h_other h_kept h_set h_w h_book h_noteSort h_whose h_what h_noteIs h_fitting h_dawn h_likes h_walked h_came h_inn_creak h_inn_doorA h_inn_doorB h_inn_how h_inn_lies h_inn_isCold h_inn_falls h_inn_isFull h_inn_isTold h_inn_act h_inn_what h_inn_then h_inn_met h_inn_bed h_inn_dream h_inn_listens h_inn_name h_inn_nameSort h_inn_nameNumber v_thrown v_trouble v_where v_read v_taped v_size v_at v_sort v_place v_sign v_number v_fault v_wrongAt v_word v_marks v_notes v_inn_minutes v_inn_rooms v_inn_doors v_inn_things v_inn_dreams v_inn_sleepers v_inn_listeners v_inn_names v_w_9 v_inn_how v_inn_lies v_inn_isFull v_inn_bed v_inn_isTold v_inn_act v_inn_then v_inn_what v_inn_doorA v_inn_doorB v_from_9 v_inn_falls v_inn_creak v_inn_listens v_far v_inn_isCold v_inn_met x160_dawn) 160 [] := by
          intro x160_4 x160_dawn hf H locs ls hl hP hD hS
          rw [eK160] at hf
          replace hf := un2_s hf
          refine lv_iconst (pc := 160) (v := 0) hx hb dX12_dawns_160 (by decide) ?_
          refine lv_istore (pc := 161) (lv' := [(5, .int 0), (0, .ref h), (4, .int x160_4)]) hx hb dX12_dawns_161 hl (by decide) rfl (fun ls hl => ?_)
          have key163 : ∀ (n : Nat) (x163_4 : Int32) (x163_5 : Int32) (x163_dawn : Nat → Int32) , lp (BX12_dawns_163 v_w_9 v_from_9) n (x163_4, x163_5, x163_dawn) = some z → AT p l e (rmOf 7 160) s m args below meth c E A Q 0 0 6 [(0, .ref h), (4, .int x163_4), (5, .int x163_5)] (wX12_dawns E h h_inn h_tape h_far h_from h_real h_other h_kept h_set h_w h_book h_noteSort h_whose h_what h_noteIs h_fitting h_dawn h_likes h_walked h_came h_inn_creak h_inn_doorA h_inn_doorB h_inn_how h_inn_lies h_inn_isCold h_inn_falls h_inn_isFull h_inn_isTold h_inn_act h_inn_what h_inn_then h_inn_met h_inn_bed h_inn_dream h_inn_listens h_inn_name h_inn_nameSort h_inn_nameNumber v_thrown v_trouble v_where v_read v_taped v_size v_at v_sort v_place v_sign v_number v_fault v_wrongAt v_word v_marks v_notes v_inn_minutes v_inn_rooms v_inn_doors v_inn_things v_inn_dreams v_inn_sleepers v_inn_listeners v_inn_names v_w_9 v_inn_how v_inn_lies v_inn_isFull v_inn_bed v_inn_isTold v_inn_act v_inn_then v_inn_what v_inn_doorA v_inn_doorB v_from_9 v_inn_falls v_inn_creak v_inn_listens v_far v_inn_isCold v_inn_met x163_dawn) 163 [] := by
            intro n
            induction n with
            | zero => intro x163_4 x163_5 x163_dawn hf; exact (lp_0 hf).elim
            | succ n ih163 =>
              intro x163_4 x163_5 x163_dawn hf H locs ls hl hP hD hS
              replace hf := lp_s hf
              generalize lp (BX12_dawns_163 v_w_9 v_from_9) n = rec163 at ih163 hf
              unfold BX12_dawns_163 at hf
              replace hf := un3_s hf
              refine lv_iload (pc := 163) hx hb dX12_dawns_163 (lv_at hl 2 rfl) ?_
              refine lv_iconst (pc := 165) (v := 3) hx hb dX12_dawns_165 (by decide) ?_
              refine lv_icmp_ge (pc := 166) (tgt := 195) hx hb dX12_dawns_166 (by decide) (fun c_166 => ?_) (fun c_166 => ?_)
              · replace hf := it_t c_166 hf
                cases hf
                rw [hQ]
                exact r_vret C hr hP hD hS dX12_dawns_195
              · replace hf := it_f c_166 hf
                refine lv_aload_n (pc := 169) hx hb dX12_dawns_169 rfl (lv_at hl 0 rfl) ?_
                refine r_get (pc := 170) C hP 0 rfl fl_X12_58 rfl dX12_dawns_170 ?_
                refine lv_iload (pc := 173) hx hb dX12_dawns_173 (lv_at hl 1 rfl) ?_
                refine lv_aload_n (pc := 175) hx hb dX12_dawns_175 rfl (lv_at hl 0 rfl) ?_
                refine r_get (pc := 176) C hP 0 rfl fl_X12_36 rfl dX12_dawns_176 ?_
                refine lv_bipush (pc := 179) (v := 9) hx hb dX12_dawns_179 (by decide) ?_
                refine lv_iload (pc := 181) hx hb dX12_dawns_181 (lv_at hl 2 rfl) ?_
                refine lv_iadd (pc := 183) hx hb dX12_dawns_183 ?_
                obtain ⟨hi_184, hf⟩ := gd_s hf
                refine r_iald (pc := 184) C hP 2 rfl hi_184 dX12_dawns_184 ?_
                obtain ⟨hi_185, hf⟩ := gd_s hf
                refine r_iast (pc := 185) (ws' := (wX12_dawns E h h_inn h_tape h_far h_from h_real h_other h_kept h_set h_w h_book h_noteSort h_whose h_what h_noteIs h_fitting h_dawn h_likes h_walked h_came h_inn_creak h_inn_doorA h_inn_doorB h_inn_how h_inn_lies h_inn_isCold h_inn_falls h_inn_isFull h_inn_isTold h_inn_act h_inn_what h_inn_then h_inn_met h_inn_bed h_inn_dream h_inn_listens h_inn_name h_inn_nameSort h_inn_nameNumber v_thrown v_trouble v_where v_read v_taped v_size v_at v_sort v_place v_sign v_number v_fault v_wrongAt v_word v_marks v_notes v_inn_minutes v_inn_rooms v_inn_doors v_inn_things v_inn_dreams v_inn_sleepers v_inn_listeners v_inn_names v_w_9 v_inn_how v_inn_lies v_inn_isFull v_inn_bed v_inn_isTold v_inn_act v_inn_then v_inn_what v_inn_doorA v_inn_doorB v_from_9 v_inn_falls v_inn_creak v_inn_listens v_far v_inn_isCold v_inn_met (upd x163_dawn x163_4.toNatClampNeg (v_w_9 (9 + x163_5).toNatClampNeg)))) C hP hD hS 20 rfl hi_185 rfl dX12_dawns_185 ?_
                clear hP hD hS; intro H locs hP hD hS
                refine lv_iinc (pc := 186) (v := x163_5 + 1) (lv' := [(5, .int (x163_5 + 1)), (0, .ref h), (4, .int x163_4)]) hx hb dX12_dawns_186 hl (k := 2) rfl rfl (by decide) rfl (fun ls hl => ?_)
                refine lv_iinc (pc := 189) (v := x163_4 + 1) (lv' := [(4, .int (x163_4 + 1)), (5, .int (x163_5 + 1)), (0, .ref h)]) hx hb dX12_dawns_189 hl (k := 2) rfl rfl (by decide) rfl (fun ls hl => ?_)
                refine lv_goto (pc := 192) (tgt := 163) hx hb dX12_dawns_192 (by decide) ?_
                exact ih163 (x163_4 + 1) (x163_5 + 1) (upd x163_dawn x163_4.toNatClampNeg (v_w_9 (9 + x163_5).toNatClampNeg)) hf _ _ _ (lv_sub hl [2, 0, 1] rfl) hP hD hS
          exact key163 _ x160_4 0 x160_dawn hf _ _ _ (lv_sub hl [1, 2, 0] rfl) hP hD hS
        clear eK160
        have key129 : ∀ (n : Nat) (x129_4 : Int32) (x129_5 : Int32) (x129_dawn : Nat → Int32) , lp (BX12_dawns_129 v_w_9 K160) n (x129_4, x129_5, x129_dawn) = some z → AT p l e (rmOf 7 160) s m args below meth c E A Q 0 0 6 [(0, .ref h), (4, .int x129_4), (5, .int x129_5)] (wX12_dawns E h h_inn h_tape h_far h_from h_real h_other h_kept h_set h_w h_book h_noteSort h_whose h_what h_noteIs h_fitting h_dawn h_likes h_walked h_came h_inn_creak h_inn_doorA h_inn_doorB h_inn_how h_inn_lies h_inn_isCold h_inn_falls h_inn_isFull h_inn_isTold h_inn_act h_inn_what h_inn_then h_inn_met h_inn_bed h_inn_dream h_inn_listens h_inn_name h_inn_nameSort h_inn_nameNumber v_thrown v_trouble v_where v_read v_taped v_size v_at v_sort v_place v_sign v_number v_fault v_wrongAt v_word v_marks v_notes v_inn_minutes v_inn_rooms v_inn_doors v_inn_things v_inn_dreams v_inn_sleepers v_inn_listeners v_inn_names v_w_9 v_inn_how v_inn_lies v_inn_isFull v_inn_bed v_inn_isTold v_inn_act v_inn_then v_inn_what v_inn_doorA v_inn_doorB v_from_9 v_inn_falls v_inn_creak v_inn_listens v_far v_inn_isCold v_inn_met x129_dawn) 129 [] := by
          intro n
          induction n with
          | zero => intro x129_4 x129_5 x129_dawn hf; exact (lp_0 hf).elim
          | succ n ih129 =>
            intro x129_4 x129_5 x129_dawn hf H locs ls hl hP hD hS
            replace hf := lp_s hf
            generalize lp (BX12_dawns_129 v_w_9 K160) n = rec129 at ih129 hf
            unfold BX12_dawns_129 at hf
            replace hf := un3_s hf
            refine lv_iload (pc := 129) hx hb dX12_dawns_129 (lv_at hl 2 rfl) ?_
            refine lv_iconst (pc := 131) (v := 3) hx hb dX12_dawns_131 (by decide) ?_
            refine lv_icmp_ge (pc := 132) (tgt := 160) hx hb dX12_dawns_132 (by decide) (fun c_132 => ?_) (fun c_132 => ?_)
            · replace hf := it_t c_132 hf
              exact hK160 x129_4 x129_dawn hf _ _ _ (lv_sub hl [0, 1] rfl) hP hD hS
            · replace hf := it_f c_132 hf
              refine lv_aload_n (pc := 135) hx hb dX12_dawns_135 rfl (lv_at hl 0 rfl) ?_
              refine r_get (pc := 136) C hP 0 rfl fl_X12_58 rfl dX12_dawns_136 ?_
              refine lv_iload (pc := 139) hx hb dX12_dawns_139 (lv_at hl 1 rfl) ?_
              refine lv_aload_n (pc := 141) hx hb dX12_dawns_141 rfl (lv_at hl 0 rfl) ?_
              refine r_get (pc := 142) C hP 0 rfl fl_X12_36 rfl dX12_dawns_142 ?_
              refine lv_iconst (pc := 145) (v := 0) hx hb dX12_dawns_145 (by decide) ?_
              refine lv_iload (pc := 146) hx hb dX12_dawns_146 (lv_at hl 2 rfl) ?_
              refine lv_iadd (pc := 148) hx hb dX12_dawns_148 ?_
              obtain ⟨hi_149, hf⟩ := gd_s hf
              refine r_iald (pc := 149) C hP 2 rfl hi_149 dX12_dawns_149 ?_
              obtain ⟨hi_150, hf⟩ := gd_s hf
              refine r_iast (pc := 150) (ws' := (wX12_dawns E h h_inn h_tape h_far h_from h_real h_other h_kept h_set h_w h_book h_noteSort h_whose h_what h_noteIs h_fitting h_dawn h_likes h_walked h_came h_inn_creak h_inn_doorA h_inn_doorB h_inn_how h_inn_lies h_inn_isCold h_inn_falls h_inn_isFull h_inn_isTold h_inn_act h_inn_what h_inn_then h_inn_met h_inn_bed h_inn_dream h_inn_listens h_inn_name h_inn_nameSort h_inn_nameNumber v_thrown v_trouble v_where v_read v_taped v_size v_at v_sort v_place v_sign v_number v_fault v_wrongAt v_word v_marks v_notes v_inn_minutes v_inn_rooms v_inn_doors v_inn_things v_inn_dreams v_inn_sleepers v_inn_listeners v_inn_names v_w_9 v_inn_how v_inn_lies v_inn_isFull v_inn_bed v_inn_isTold v_inn_act v_inn_then v_inn_what v_inn_doorA v_inn_doorB v_from_9 v_inn_falls v_inn_creak v_inn_listens v_far v_inn_isCold v_inn_met (upd x129_dawn x129_4.toNatClampNeg (v_w_9 (0 + x129_5).toNatClampNeg)))) C hP hD hS 20 rfl hi_150 rfl dX12_dawns_150 ?_
              clear hP hD hS; intro H locs hP hD hS
              refine lv_iinc (pc := 151) (v := x129_5 + 1) (lv' := [(5, .int (x129_5 + 1)), (0, .ref h), (4, .int x129_4)]) hx hb dX12_dawns_151 hl (k := 2) rfl rfl (by decide) rfl (fun ls hl => ?_)
              refine lv_iinc (pc := 154) (v := x129_4 + 1) (lv' := [(4, .int (x129_4 + 1)), (5, .int (x129_5 + 1)), (0, .ref h)]) hx hb dX12_dawns_154 hl (k := 2) rfl rfl (by decide) rfl (fun ls hl => ?_)
              refine lv_goto (pc := 157) (tgt := 129) hx hb dX12_dawns_157 (by decide) ?_
              exact ih129 (x129_4 + 1) (x129_5 + 1) (upd x129_dawn x129_4.toNatClampNeg (v_w_9 (0 + x129_5).toNatClampNeg)) hf _ _ _ (lv_sub hl [2, 0, 1] rfl) hP hD hS
        exact key129 _ x126_4 0 x126_dawn hf _ _ _ (lv_sub hl [1, 2, 0] rfl) hP hD hS
      clear eK126
      have key93 : ∀ (n : Nat) (x93_4 : Int32) (x93_5 : Int32) (x93_dawn : Nat → Int32) , lp (BX12_dawns_93 v_w_9 K126) n (x93_4, x93_5, x93_dawn) = some z → AT p l e (rmOf 7 160) s m args below meth c E A Q 0 0 6 [(0, .ref h), (4, .int x93_4), (5, .int x93_5)] (wX12_dawns E h h_inn h_tape h_far h_from h_real h_other h_kept h_set h_w h_book h_noteSort h_whose h_what h_noteIs h_fitting h_dawn h_likes h_walked h_came h_inn_creak h_inn_doorA h_inn_doorB h_inn_how h_inn_lies h_inn_isCold h_inn_falls h_inn_isFull h_inn_isTold h_inn_act h_inn_what h_inn_then h_inn_met h_inn_bed h_inn_dream h_inn_listens h_inn_name h_inn_nameSort h_inn_nameNumber v_thrown v_trouble v_where v_read v_taped v_size v_at v_sort v_place v_sign v_number v_fault v_wrongAt v_word v_marks v_notes v_inn_minutes v_inn_rooms v_inn_doors v_inn_things v_inn_dreams v_inn_sleepers v_inn_listeners v_inn_names v_w_9 v_inn_how v_inn_lies v_inn_isFull v_inn_bed v_inn_isTold v_inn_act v_inn_then v_inn_what v_inn_doorA v_inn_doorB v_from_9 v_inn_falls v_inn_creak v_inn_listens v_far v_inn_isCold v_inn_met x93_dawn) 93 [] := by
        intro n
        induction n with
        | zero => intro x93_4 x93_5 x93_dawn hf; exact (lp_0 hf).elim
        | succ n ih93 =>
          intro x93_4 x93_5 x93_dawn hf H locs ls hl hP hD hS
          replace hf := lp_s hf
          generalize lp (BX12_dawns_93 v_w_9 K126) n = rec93 at ih93 hf
          unfold BX12_dawns_93 at hf
          replace hf := un3_s hf
          refine lv_iload (pc := 93) hx hb dX12_dawns_93 (lv_at hl 2 rfl) ?_
          refine lv_bipush (pc := 95) (v := 10) hx hb dX12_dawns_95 (by decide) ?_
          refine lv_icmp_ge (pc := 97) (tgt := 126) hx hb dX12_dawns_97 (by decide) (fun c_97 => ?_) (fun c_97 => ?_)
          · replace hf := it_t c_97 hf
            exact hK126 x93_4 x93_dawn hf _ _ _ (lv_sub hl [0, 1] rfl) hP hD hS
          · replace hf := it_f c_97 hf
            refine lv_aload_n (pc := 100) hx hb dX12_dawns_100 rfl (lv_at hl 0 rfl) ?_
            refine r_get (pc := 101) C hP 0 rfl fl_X12_58 rfl dX12_dawns_101 ?_
            refine lv_iload (pc := 104) hx hb dX12_dawns_104 (lv_at hl 1 rfl) ?_
            refine lv_aload_n (pc := 106) hx hb dX12_dawns_106 rfl (lv_at hl 0 rfl) ?_
            refine r_get (pc := 107) C hP 0 rfl fl_X12_36 rfl dX12_dawns_107 ?_
            refine lv_bipush (pc := 110) (v := 23) hx hb dX12_dawns_110 (by decide) ?_
            refine lv_iload (pc := 112) hx hb dX12_dawns_112 (lv_at hl 2 rfl) ?_
            refine lv_iadd (pc := 114) hx hb dX12_dawns_114 ?_
            obtain ⟨hi_115, hf⟩ := gd_s hf
            refine r_iald (pc := 115) C hP 2 rfl hi_115 dX12_dawns_115 ?_
            obtain ⟨hi_116, hf⟩ := gd_s hf
            refine r_iast (pc := 116) (ws' := (wX12_dawns E h h_inn h_tape h_far h_from h_real h_other h_kept h_set h_w h_book h_noteSort h_whose h_what h_noteIs h_fitting h_dawn h_likes h_walked h_came h_inn_creak h_inn_doorA h_inn_doorB h_inn_how h_inn_lies h_inn_isCold h_inn_falls h_inn_isFull h_inn_isTold h_inn_act h_inn_what h_inn_then h_inn_met h_inn_bed h_inn_dream h_inn_listens h_inn_name h_inn_nameSort h_inn_nameNumber v_thrown v_trouble v_where v_read v_taped v_size v_at v_sort v_place v_sign v_number v_fault v_wrongAt v_word v_marks v_notes v_inn_minutes v_inn_rooms v_inn_doors v_inn_things v_inn_dreams v_inn_sleepers v_inn_listeners v_inn_names v_w_9 v_inn_how v_inn_lies v_inn_isFull v_inn_bed v_inn_isTold v_inn_act v_inn_then v_inn_what v_inn_doorA v_inn_doorB v_from_9 v_inn_falls v_inn_creak v_inn_listens v_far v_inn_isCold v_inn_met (upd x93_dawn x93_4.toNatClampNeg (v_w_9 (23 + x93_5).toNatClampNeg)))) C hP hD hS 20 rfl hi_116 rfl dX12_dawns_116 ?_
            clear hP hD hS; intro H locs hP hD hS
            refine lv_iinc (pc := 117) (v := x93_5 + 1) (lv' := [(5, .int (x93_5 + 1)), (0, .ref h), (4, .int x93_4)]) hx hb dX12_dawns_117 hl (k := 2) rfl rfl (by decide) rfl (fun ls hl => ?_)
            refine lv_iinc (pc := 120) (v := x93_4 + 1) (lv' := [(4, .int (x93_4 + 1)), (5, .int (x93_5 + 1)), (0, .ref h)]) hx hb dX12_dawns_120 hl (k := 2) rfl rfl (by decide) rfl (fun ls hl => ?_)
            refine lv_goto (pc := 123) (tgt := 93) hx hb dX12_dawns_123 (by decide) ?_
            exact ih93 (x93_4 + 1) (x93_5 + 1) (upd x93_dawn x93_4.toNatClampNeg (v_w_9 (23 + x93_5).toNatClampNeg)) hf _ _ _ (lv_sub hl [2, 0, 1] rfl) hP hD hS
      exact key93 _ x90_4 0 x90_dawn hf _ _ _ (lv_sub hl [1, 2, 0] rfl) hP hD hS
    clear eK90
    have key57 : ∀ (n : Nat) (x57_4 : Int32) (x57_5 : Int32) (x57_dawn : Nat → Int32) , lp (BX12_dawns_57 v_w_9 K90) n (x57_4, x57_5, x57_dawn) = some z → AT p l e (rmOf 7 160) s m args below meth c E A Q 0 0 6 [(0, .ref h), (4, .int x57_4), (5, .int x57_5)] (wX12_dawns E h h_inn h_tape h_far h_from h_real h_other h_kept h_set h_w h_book h_noteSort h_whose h_what h_noteIs h_fitting h_dawn h_likes h_walked h_came h_inn_creak h_inn_doorA h_inn_doorB h_inn_how h_inn_lies h_inn_isCold h_inn_falls h_inn_isFull h_inn_isTold h_inn_act h_inn_what h_inn_then h_inn_met h_inn_bed h_inn_dream h_inn_listens h_inn_name h_inn_nameSort h_inn_nameNumber v_thrown v_trouble v_where v_read v_taped v_size v_at v_sort v_place v_sign v_number v_fault v_wrongAt v_word v_marks v_notes v_inn_minutes v_inn_rooms v_inn_doors v_inn_things v_inn_dreams v_inn_sleepers v_inn_listeners v_inn_names v_w_9 v_inn_how v_inn_lies v_inn_isFull v_inn_bed v_inn_isTold v_inn_act v_inn_then v_inn_what v_inn_doorA v_inn_doorB v_from_9 v_inn_falls v_inn_creak v_inn_listens v_far v_inn_isCold v_inn_met x57_dawn) 57 [] := by
      intro n
      induction n with
      | zero => intro x57_4 x57_5 x57_dawn hf; exact (lp_0 hf).elim
      | succ n ih57 =>
        intro x57_4 x57_5 x57_dawn hf H locs ls hl hP hD hS
        replace hf := lp_s hf
        generalize lp (BX12_dawns_57 v_w_9 K90) n = rec57 at ih57 hf
        unfold BX12_dawns_57 at hf
        replace hf := un3_s hf
        refine lv_iload (pc := 57) hx hb dX12_dawns_57 (lv_at hl 2 rfl) ?_
        refine lv_bipush (pc := 59) (v := 8) hx hb dX12_dawns_59 (by decide) ?_
        refine lv_icmp_ge (pc := 61) (tgt := 90) hx hb dX12_dawns_61 (by decide) (fun c_61 => ?_) (fun c_61 => ?_)
        · replace hf := it_t c_61 hf
          exact hK90 x57_4 x57_dawn hf _ _ _ (lv_sub hl [0, 1] rfl) hP hD hS
        · replace hf := it_f c_61 hf
          refine lv_aload_n (pc := 64) hx hb dX12_dawns_64 rfl (lv_at hl 0 rfl) ?_
          refine r_get (pc := 65) C hP 0 rfl fl_X12_58 rfl dX12_dawns_65 ?_
          refine lv_iload (pc := 68) hx hb dX12_dawns_68 (lv_at hl 1 rfl) ?_
          refine lv_aload_n (pc := 70) hx hb dX12_dawns_70 rfl (lv_at hl 0 rfl) ?_
          refine r_get (pc := 71) C hP 0 rfl fl_X12_36 rfl dX12_dawns_71 ?_
          refine lv_bipush (pc := 74) (v := 15) hx hb dX12_dawns_74 (by decide) ?_
          refine lv_iload (pc := 76) hx hb dX12_dawns_76 (lv_at hl 2 rfl) ?_
          refine lv_iadd (pc := 78) hx hb dX12_dawns_78 ?_
          obtain ⟨hi_79, hf⟩ := gd_s hf
          refine r_iald (pc := 79) C hP 2 rfl hi_79 dX12_dawns_79 ?_
          obtain ⟨hi_80, hf⟩ := gd_s hf
          refine r_iast (pc := 80) (ws' := (wX12_dawns E h h_inn h_tape h_far h_from h_real h_other h_kept h_set h_w h_book h_noteSort h_whose h_what h_noteIs h_fitting h_dawn h_likes h_walked h_came h_inn_creak h_inn_doorA h_inn_doorB h_inn_how h_inn_lies h_inn_isCold h_inn_falls h_inn_isFull h_inn_isTold h_inn_act h_inn_what h_inn_then h_inn_met h_inn_bed h_inn_dream h_inn_listens h_inn_name h_inn_nameSort h_inn_nameNumber v_thrown v_trouble v_where v_read v_taped v_size v_at v_sort v_place v_sign v_number v_fault v_wrongAt v_word v_marks v_notes v_inn_minutes v_inn_rooms v_inn_doors v_inn_things v_inn_dreams v_inn_sleepers v_inn_listeners v_inn_names v_w_9 v_inn_how v_inn_lies v_inn_isFull v_inn_bed v_inn_isTold v_inn_act v_inn_then v_inn_what v_inn_doorA v_inn_doorB v_from_9 v_inn_falls v_inn_creak v_inn_listens v_far v_inn_isCold v_inn_met (upd x57_dawn x57_4.toNatClampNeg (v_w_9 (15 + x57_5).toNatClampNeg)))) C hP hD hS 20 rfl hi_80 rfl dX12_dawns_80 ?_
          clear hP hD hS; intro H locs hP hD hS
          refine lv_iinc (pc := 81) (v := x57_5 + 1) (lv' := [(5, .int (x57_5 + 1)), (0, .ref h), (4, .int x57_4)]) hx hb dX12_dawns_81 hl (k := 2) rfl rfl (by decide) rfl (fun ls hl => ?_)
          refine lv_iinc (pc := 84) (v := x57_4 + 1) (lv' := [(4, .int (x57_4 + 1)), (5, .int (x57_5 + 1)), (0, .ref h)]) hx hb dX12_dawns_84 hl (k := 2) rfl rfl (by decide) rfl (fun ls hl => ?_)
          refine lv_goto (pc := 87) (tgt := 57) hx hb dX12_dawns_87 (by decide) ?_
          exact ih57 (x57_4 + 1) (x57_5 + 1) (upd x57_dawn x57_4.toNatClampNeg (v_w_9 (15 + x57_5).toNatClampNeg)) hf _ _ _ (lv_sub hl [2, 0, 1] rfl) hP hD hS
    exact key57 _ x54_4 0 x54_dawn hf _ _ _ (lv_sub hl [1, 2, 0] rfl) hP hD hS
  clear eK54
  have key21 : ∀ (n : Nat) (x21_4 : Int32) (x21_5 : Int32) (x21_dawn : Nat → Int32) , lp (BX12_dawns_21 v_w_9 K54) n (x21_4, x21_5, x21_dawn) = some z → AT p l e (rmOf 7 160) s m args below meth c E A Q 0 0 6 [(0, .ref h), (4, .int x21_4), (5, .int x21_5)] (wX12_dawns E h h_inn h_tape h_far h_from h_real h_other h_kept h_set h_w h_book h_noteSort h_whose h_what h_noteIs h_fitting h_dawn h_likes h_walked h_came h_inn_creak h_inn_doorA h_inn_doorB h_inn_how h_inn_lies h_inn_isCold h_inn_falls h_inn_isFull h_inn_isTold h_inn_act h_inn_what h_inn_then h_inn_met h_inn_bed h_inn_dream h_inn_listens h_inn_name h_inn_nameSort h_inn_nameNumber v_thrown v_trouble v_where v_read v_taped v_size v_at v_sort v_place v_sign v_number v_fault v_wrongAt v_word v_marks v_notes v_inn_minutes v_inn_rooms v_inn_doors v_inn_things v_inn_dreams v_inn_sleepers v_inn_listeners v_inn_names v_w_9 v_inn_how v_inn_lies v_inn_isFull v_inn_bed v_inn_isTold v_inn_act v_inn_then v_inn_what v_inn_doorA v_inn_doorB v_from_9 v_inn_falls v_inn_creak v_inn_listens v_far v_inn_isCold v_inn_met x21_dawn) 21 [] := by
    intro n
    induction n with
    | zero => intro x21_4 x21_5 x21_dawn hf; exact (lp_0 hf).elim
    | succ n ih21 =>
      intro x21_4 x21_5 x21_dawn hf H locs ls hl hP hD hS
      replace hf := lp_s hf
      generalize lp (BX12_dawns_21 v_w_9 K54) n = rec21 at ih21 hf
      unfold BX12_dawns_21 at hf
      replace hf := un3_s hf
      refine lv_iload (pc := 21) hx hb dX12_dawns_21 (lv_at hl 2 rfl) ?_
      refine lv_bipush (pc := 23) (v := 6) hx hb dX12_dawns_23 (by decide) ?_
      refine lv_icmp_ge (pc := 25) (tgt := 54) hx hb dX12_dawns_25 (by decide) (fun c_25 => ?_) (fun c_25 => ?_)
      · replace hf := it_t c_25 hf
        exact hK54 x21_4 x21_dawn hf _ _ _ (lv_sub hl [0, 1] rfl) hP hD hS
      · replace hf := it_f c_25 hf
        refine lv_aload_n (pc := 28) hx hb dX12_dawns_28 rfl (lv_at hl 0 rfl) ?_
        refine r_get (pc := 29) C hP 0 rfl fl_X12_58 rfl dX12_dawns_29 ?_
        refine lv_iload (pc := 32) hx hb dX12_dawns_32 (lv_at hl 1 rfl) ?_
        refine lv_aload_n (pc := 34) hx hb dX12_dawns_34 rfl (lv_at hl 0 rfl) ?_
        refine r_get (pc := 35) C hP 0 rfl fl_X12_36 rfl dX12_dawns_35 ?_
        refine lv_bipush (pc := 38) (v := 43) hx hb dX12_dawns_38 (by decide) ?_
        refine lv_iload (pc := 40) hx hb dX12_dawns_40 (lv_at hl 2 rfl) ?_
        refine lv_iadd (pc := 42) hx hb dX12_dawns_42 ?_
        obtain ⟨hi_43, hf⟩ := gd_s hf
        refine r_iald (pc := 43) C hP 2 rfl hi_43 dX12_dawns_43 ?_
        obtain ⟨hi_44, hf⟩ := gd_s hf
        refine r_iast (pc := 44) (ws' := (wX12_dawns E h h_inn h_tape h_far h_from h_real h_other h_kept h_set h_w h_book h_noteSort h_whose h_what h_noteIs h_fitting h_dawn h_likes h_walked h_came h_inn_creak h_inn_doorA h_inn_doorB h_inn_how h_inn_lies h_inn_isCold h_inn_falls h_inn_isFull h_inn_isTold h_inn_act h_inn_what h_inn_then h_inn_met h_inn_bed h_inn_dream h_inn_listens h_inn_name h_inn_nameSort h_inn_nameNumber v_thrown v_trouble v_where v_read v_taped v_size v_at v_sort v_place v_sign v_number v_fault v_wrongAt v_word v_marks v_notes v_inn_minutes v_inn_rooms v_inn_doors v_inn_things v_inn_dreams v_inn_sleepers v_inn_listeners v_inn_names v_w_9 v_inn_how v_inn_lies v_inn_isFull v_inn_bed v_inn_isTold v_inn_act v_inn_then v_inn_what v_inn_doorA v_inn_doorB v_from_9 v_inn_falls v_inn_creak v_inn_listens v_far v_inn_isCold v_inn_met (upd x21_dawn x21_4.toNatClampNeg (v_w_9 (43 + x21_5).toNatClampNeg)))) C hP hD hS 20 rfl hi_44 rfl dX12_dawns_44 ?_
        clear hP hD hS; intro H locs hP hD hS
        refine lv_iinc (pc := 45) (v := x21_5 + 1) (lv' := [(5, .int (x21_5 + 1)), (0, .ref h), (4, .int x21_4)]) hx hb dX12_dawns_45 hl (k := 2) rfl rfl (by decide) rfl (fun ls hl => ?_)
        refine lv_iinc (pc := 48) (v := x21_4 + 1) (lv' := [(4, .int (x21_4 + 1)), (5, .int (x21_5 + 1)), (0, .ref h)]) hx hb dX12_dawns_48 hl (k := 2) rfl rfl (by decide) rfl (fun ls hl => ?_)
        refine lv_goto (pc := 51) (tgt := 21) hx hb dX12_dawns_51 (by decide) ?_
        exact ih21 (x21_4 + 1) (x21_5 + 1) (upd x21_dawn x21_4.toNatClampNeg (v_w_9 (43 + x21_5).toNatClampNeg)) hf _ _ _ (lv_sub hl [2, 0, 1] rfl) hP hD hS
  exact key21 _ (p2 * 30) 0 v_dawn hf _ _ _ (lv_sub hl [2, 1, 0] rfl) hP hD hS
