theorem dX12_isAlike_0 : decode cX12_isAlike 0 = .ok (.iconst 0, 1) := by decide +kernel
theorem dX12_isAlike_1 : decode cX12_isAlike 1 = .ok (.istore_n 3, 1) := by decide +kernel
theorem dX12_isAlike_2 : decode cX12_isAlike 2 = .ok (.iload_n 3, 1) := by decide +kernel
theorem dX12_isAlike_3 : decode cX12_isAlike 3 = .ok (.bipush 30, 2) := by decide +kernel
theorem dX12_isAlike_5 : decode cX12_isAlike 5 = .ok (.if_icmp .ge 36, 3) := by decide +kernel
theorem dX12_isAlike_8 : decode cX12_isAlike 8 = .ok (.aload_n 0, 1) := by decide +kernel
theorem dX12_isAlike_9 : decode cX12_isAlike 9 = .ok (.getfield 58, 3) := by decide +kernel
theorem dX12_isAlike_12 : decode cX12_isAlike 12 = .ok (.iload_n 1, 1) := by decide +kernel
theorem dX12_isAlike_13 : decode cX12_isAlike 13 = .ok (.bipush 30, 2) := by decide +kernel
theorem dX12_isAlike_15 : decode cX12_isAlike 15 = .ok (.imul, 1) := by decide +kernel
theorem dX12_isAlike_16 : decode cX12_isAlike 16 = .ok (.iload_n 3, 1) := by decide +kernel
theorem dX12_isAlike_17 : decode cX12_isAlike 17 = .ok (.iadd, 1) := by decide +kernel
theorem dX12_isAlike_18 : decode cX12_isAlike 18 = .ok (.iaload, 1) := by decide +kernel
theorem dX12_isAlike_19 : decode cX12_isAlike 19 = .ok (.aload_n 0, 1) := by decide +kernel
theorem dX12_isAlike_20 : decode cX12_isAlike 20 = .ok (.getfield 58, 3) := by decide +kernel
theorem dX12_isAlike_23 : decode cX12_isAlike 23 = .ok (.iload_n 2, 1) := by decide +kernel
theorem dX12_isAlike_24 : decode cX12_isAlike 24 = .ok (.bipush 30, 2) := by decide +kernel
theorem dX12_isAlike_26 : decode cX12_isAlike 26 = .ok (.imul, 1) := by decide +kernel
theorem dX12_isAlike_27 : decode cX12_isAlike 27 = .ok (.iload_n 3, 1) := by decide +kernel
theorem dX12_isAlike_28 : decode cX12_isAlike 28 = .ok (.iadd, 1) := by decide +kernel
theorem dX12_isAlike_29 : decode cX12_isAlike 29 = .ok (.iaload, 1) := by decide +kernel
theorem dX12_isAlike_30 : decode cX12_isAlike 30 = .ok (.if_icmp .eq 5, 3) := by decide +kernel
theorem dX12_isAlike_33 : decode cX12_isAlike 33 = .ok (.iconst 0, 1) := by decide +kernel
theorem dX12_isAlike_34 : decode cX12_isAlike 34 = .ok (.ireturn, 1) := by decide +kernel
theorem dX12_isAlike_35 : decode cX12_isAlike 35 = .ok (.iinc 3 1, 3) := by decide +kernel
theorem dX12_isAlike_38 : decode cX12_isAlike 38 = .ok (.goto (-36), 3) := by decide +kernel
theorem dX12_isAlike_41 : decode cX12_isAlike 41 = .ok (.iconst 1, 1) := by decide +kernel
theorem dX12_isAlike_42 : decode cX12_isAlike 42 = .ok (.ireturn, 1) := by decide +kernel
theorem dX12_mostAlike_0 : decode cX12_mostAlike 0 = .ok (.aload_n 0, 1) := by decide +kernel
theorem dX12_mostAlike_1 : decode cX12_mostAlike 1 = .ok (.aload_n 0, 1) := by decide +kernel
theorem dX12_mostAlike_2 : decode cX12_mostAlike 2 = .ok (.getfield 27, 3) := by decide +kernel
theorem dX12_mostAlike_5 : decode cX12_mostAlike 5 = .ok (.putfield 36, 3) := by decide +kernel
theorem dX12_mostAlike_8 : decode cX12_mostAlike 8 = .ok (.iconst 0, 1) := by decide +kernel
theorem dX12_mostAlike_9 : decode cX12_mostAlike 9 = .ok (.istore 4, 2) := by decide +kernel
theorem dX12_mostAlike_11 : decode cX12_mostAlike 11 = .ok (.iload 4, 2) := by decide +kernel
theorem dX12_mostAlike_13 : decode cX12_mostAlike 13 = .ok (.iload_n 1, 1) := by decide +kernel
theorem dX12_mostAlike_14 : decode cX12_mostAlike 14 = .ok (.if_icmp .ge 43, 3) := by decide +kernel
theorem dX12_mostAlike_17 : decode cX12_mostAlike 17 = .ok (.aload_n 0, 1) := by decide +kernel
theorem dX12_mostAlike_18 : decode cX12_mostAlike 18 = .ok (.aload_n 0, 1) := by decide +kernel
theorem dX12_mostAlike_19 : decode cX12_mostAlike 19 = .ok (.getfield 55, 3) := by decide +kernel
theorem dX12_mostAlike_22 : decode cX12_mostAlike 22 = .ok (.iload 4, 2) := by decide +kernel
theorem dX12_mostAlike_24 : decode cX12_mostAlike 24 = .ok (.iaload, 1) := by decide +kernel
theorem dX12_mostAlike_25 : decode cX12_mostAlike 25 = .ok (.iload_n 2, 1) := by decide +kernel
theorem dX12_mostAlike_26 : decode cX12_mostAlike 26 = .ok (.iconst 2, 1) := by decide +kernel
theorem dX12_mostAlike_27 : decode cX12_mostAlike 27 = .ok (.iload 4, 2) := by decide +kernel
theorem dX12_mostAlike_29 : decode cX12_mostAlike 29 = .ok (.imul, 1) := by decide +kernel
theorem dX12_mostAlike_30 : decode cX12_mostAlike 30 = .ok (.invokevirtual 470, 3) := by decide +kernel
theorem dX12_mostAlike_33 : decode cX12_mostAlike 33 = .ok (.aload_n 0, 1) := by decide +kernel
theorem dX12_mostAlike_34 : decode cX12_mostAlike 34 = .ok (.aload_n 0, 1) := by decide +kernel
theorem dX12_mostAlike_35 : decode cX12_mostAlike 35 = .ok (.getfield 55, 3) := by decide +kernel
theorem dX12_mostAlike_38 : decode cX12_mostAlike 38 = .ok (.iload 4, 2) := by decide +kernel
theorem dX12_mostAlike_40 : decode cX12_mostAlike 40 = .ok (.iaload, 1) := by decide +kernel
theorem dX12_mostAlike_41 : decode cX12_mostAlike 41 = .ok (.iload_n 3, 1) := by decide +kernel
theorem dX12_mostAlike_42 : decode cX12_mostAlike 42 = .ok (.iconst 2, 1) := by decide +kernel
theorem dX12_mostAlike_43 : decode cX12_mostAlike 43 = .ok (.iload 4, 2) := by decide +kernel
theorem dX12_mostAlike_45 : decode cX12_mostAlike 45 = .ok (.imul, 1) := by decide +kernel
theorem dX12_mostAlike_46 : decode cX12_mostAlike 46 = .ok (.iconst 1, 1) := by decide +kernel
theorem dX12_mostAlike_47 : decode cX12_mostAlike 47 = .ok (.iadd, 1) := by decide +kernel
theorem dX12_mostAlike_48 : decode cX12_mostAlike 48 = .ok (.invokevirtual 470, 3) := by decide +kernel
theorem dX12_mostAlike_51 : decode cX12_mostAlike 51 = .ok (.iinc 4 1, 3) := by decide +kernel
theorem dX12_mostAlike_54 : decode cX12_mostAlike 54 = .ok (.goto (-43), 3) := by decide +kernel
theorem dX12_mostAlike_57 : decode cX12_mostAlike 57 = .ok (.aload_n 0, 1) := by decide +kernel
theorem dX12_mostAlike_58 : decode cX12_mostAlike 58 = .ok (.aload_n 0, 1) := by decide +kernel
theorem dX12_mostAlike_59 : decode cX12_mostAlike 59 = .ok (.getfield 24, 3) := by decide +kernel
theorem dX12_mostAlike_62 : decode cX12_mostAlike 62 = .ok (.putfield 36, 3) := by decide +kernel
theorem dX12_mostAlike_65 : decode cX12_mostAlike 65 = .ok (.iconst 0, 1) := by decide +kernel
theorem dX12_mostAlike_66 : decode cX12_mostAlike 66 = .ok (.istore 4, 2) := by decide +kernel
theorem dX12_mostAlike_68 : decode cX12_mostAlike 68 = .ok (.iconst 0, 1) := by decide +kernel
theorem dX12_mostAlike_69 : decode cX12_mostAlike 69 = .ok (.istore 5, 2) := by decide +kernel
theorem dX12_mostAlike_71 : decode cX12_mostAlike 71 = .ok (.iload 5, 2) := by decide +kernel
theorem dX12_mostAlike_73 : decode cX12_mostAlike 73 = .ok (.iload_n 1, 1) := by decide +kernel
theorem dX12_mostAlike_74 : decode cX12_mostAlike 74 = .ok (.if_icmp .ge 87, 3) := by decide +kernel
theorem dX12_mostAlike_77 : decode cX12_mostAlike 77 = .ok (.iconst 0, 1) := by decide +kernel
theorem dX12_mostAlike_78 : decode cX12_mostAlike 78 = .ok (.istore 6, 2) := by decide +kernel
theorem dX12_mostAlike_80 : decode cX12_mostAlike 80 = .ok (.iconst 0, 1) := by decide +kernel
theorem dX12_mostAlike_81 : decode cX12_mostAlike 81 = .ok (.istore 7, 2) := by decide +kernel
theorem dX12_mostAlike_83 : decode cX12_mostAlike 83 = .ok (.iload 7, 2) := by decide +kernel
theorem dX12_mostAlike_85 : decode cX12_mostAlike 85 = .ok (.iload_n 1, 1) := by decide +kernel
theorem dX12_mostAlike_86 : decode cX12_mostAlike 86 = .ok (.if_icmp .ge 53, 3) := by decide +kernel
theorem dX12_mostAlike_89 : decode cX12_mostAlike 89 = .ok (.iload 6, 2) := by decide +kernel
theorem dX12_mostAlike_91 : decode cX12_mostAlike 91 = .ok (.aload_n 0, 1) := by decide +kernel
theorem dX12_mostAlike_92 : decode cX12_mostAlike 92 = .ok (.iconst 2, 1) := by decide +kernel
theorem dX12_mostAlike_93 : decode cX12_mostAlike 93 = .ok (.iload 5, 2) := by decide +kernel
theorem dX12_mostAlike_95 : decode cX12_mostAlike 95 = .ok (.imul, 1) := by decide +kernel
theorem dX12_mostAlike_96 : decode cX12_mostAlike 96 = .ok (.iconst 2, 1) := by decide +kernel
theorem dX12_mostAlike_97 : decode cX12_mostAlike 97 = .ok (.iload 7, 2) := by decide +kernel
theorem dX12_mostAlike_99 : decode cX12_mostAlike 99 = .ok (.imul, 1) := by decide +kernel
theorem dX12_mostAlike_100 : decode cX12_mostAlike 100 = .ok (.invokevirtual 474, 3) := by decide +kernel
theorem dX12_mostAlike_103 : decode cX12_mostAlike 103 = .ok (.ifCond .eq 26, 3) := by decide +kernel
theorem dX12_mostAlike_106 : decode cX12_mostAlike 106 = .ok (.aload_n 0, 1) := by decide +kernel
theorem dX12_mostAlike_107 : decode cX12_mostAlike 107 = .ok (.iconst 2, 1) := by decide +kernel
theorem dX12_mostAlike_108 : decode cX12_mostAlike 108 = .ok (.iload 5, 2) := by decide +kernel
theorem dX12_mostAlike_110 : decode cX12_mostAlike 110 = .ok (.imul, 1) := by decide +kernel
theorem dX12_mostAlike_111 : decode cX12_mostAlike 111 = .ok (.iconst 1, 1) := by decide +kernel
theorem dX12_mostAlike_112 : decode cX12_mostAlike 112 = .ok (.iadd, 1) := by decide +kernel
theorem dX12_mostAlike_113 : decode cX12_mostAlike 113 = .ok (.iconst 2, 1) := by decide +kernel
theorem dX12_mostAlike_114 : decode cX12_mostAlike 114 = .ok (.iload 7, 2) := by decide +kernel
theorem dX12_mostAlike_116 : decode cX12_mostAlike 116 = .ok (.imul, 1) := by decide +kernel
theorem dX12_mostAlike_117 : decode cX12_mostAlike 117 = .ok (.iconst 1, 1) := by decide +kernel
theorem dX12_mostAlike_118 : decode cX12_mostAlike 118 = .ok (.iadd, 1) := by decide +kernel
theorem dX12_mostAlike_119 : decode cX12_mostAlike 119 = .ok (.invokevirtual 474, 3) := by decide +kernel
theorem dX12_mostAlike_122 : decode cX12_mostAlike 122 = .ok (.ifCond .eq 7, 3) := by decide +kernel
theorem dX12_mostAlike_125 : decode cX12_mostAlike 125 = .ok (.iconst 1, 1) := by decide +kernel
theorem dX12_mostAlike_126 : decode cX12_mostAlike 126 = .ok (.goto 4, 3) := by decide +kernel
theorem dX12_mostAlike_129 : decode cX12_mostAlike 129 = .ok (.iconst 0, 1) := by decide +kernel
theorem dX12_mostAlike_130 : decode cX12_mostAlike 130 = .ok (.iadd, 1) := by decide +kernel
theorem dX12_mostAlike_131 : decode cX12_mostAlike 131 = .ok (.istore 6, 2) := by decide +kernel
theorem dX12_mostAlike_133 : decode cX12_mostAlike 133 = .ok (.iinc 7 1, 3) := by decide +kernel
theorem dX12_mostAlike_136 : decode cX12_mostAlike 136 = .ok (.goto (-53), 3) := by decide +kernel
theorem dX12_mostAlike_139 : decode cX12_mostAlike 139 = .ok (.iload 6, 2) := by decide +kernel
theorem dX12_mostAlike_141 : decode cX12_mostAlike 141 = .ok (.iload 4, 2) := by decide +kernel
theorem dX12_mostAlike_143 : decode cX12_mostAlike 143 = .ok (.if_icmp .le 8, 3) := by decide +kernel
theorem dX12_mostAlike_146 : decode cX12_mostAlike 146 = .ok (.iload 6, 2) := by decide +kernel
theorem dX12_mostAlike_148 : decode cX12_mostAlike 148 = .ok (.goto 5, 3) := by decide +kernel
theorem dX12_mostAlike_151 : decode cX12_mostAlike 151 = .ok (.iload 4, 2) := by decide +kernel
theorem dX12_mostAlike_153 : decode cX12_mostAlike 153 = .ok (.istore 4, 2) := by decide +kernel
theorem dX12_mostAlike_155 : decode cX12_mostAlike 155 = .ok (.iinc 5 1, 3) := by decide +kernel
theorem dX12_mostAlike_158 : decode cX12_mostAlike 158 = .ok (.goto (-87), 3) := by decide +kernel
theorem dX12_mostAlike_161 : decode cX12_mostAlike 161 = .ok (.iload 4, 2) := by decide +kernel
theorem dX12_mostAlike_163 : decode cX12_mostAlike 163 = .ok (.ireturn, 1) := by decide +kernel
theorem dX12_parts_0 : decode cX12_parts 0 = .ok (.aload_n 0, 1) := by decide +kernel
theorem dX12_parts_1 : decode cX12_parts 1 = .ok (.iconst 0, 1) := by decide +kernel
theorem dX12_parts_2 : decode cX12_parts 2 = .ok (.putfield 71, 3) := by decide +kernel
theorem dX12_parts_5 : decode cX12_parts 5 = .ok (.aload_n 0, 1) := by decide +kernel
theorem dX12_parts_6 : decode cX12_parts 6 = .ok (.iload_n 1, 1) := by decide +kernel
theorem dX12_parts_7 : decode cX12_parts 7 = .ok (.invokevirtual 412, 3) := by decide +kernel
theorem dX12_parts_10 : decode cX12_parts 10 = .ok (.ifCond .ne 9, 3) := by decide +kernel
theorem dX12_parts_13 : decode cX12_parts 13 = .ok (.aload_n 0, 1) := by decide +kernel
theorem dX12_parts_14 : decode cX12_parts 14 = .ok (.iconst 1, 1) := by decide +kernel
theorem dX12_parts_15 : decode cX12_parts 15 = .ok (.invokevirtual 77, 3) := by decide +kernel
theorem dX12_parts_18 : decode cX12_parts 18 = .ok (.ireturn, 1) := by decide +kernel
theorem dX12_parts_19 : decode cX12_parts 19 = .ok (.aload_n 0, 1) := by decide +kernel
theorem dX12_parts_20 : decode cX12_parts 20 = .ok (.iconst 3, 1) := by decide +kernel
theorem dX12_parts_21 : decode cX12_parts 21 = .ok (.invokevirtual 464, 3) := by decide +kernel
theorem dX12_parts_24 : decode cX12_parts 24 = .ok (.istore_n 2, 1) := by decide +kernel
theorem dX12_parts_25 : decode cX12_parts 25 = .ok (.iload_n 2, 1) := by decide +kernel
theorem dX12_parts_26 : decode cX12_parts 26 = .ok (.ifCond .ne 12, 3) := by decide +kernel
theorem dX12_parts_29 : decode cX12_parts 29 = .ok (.aload_n 0, 1) := by decide +kernel
theorem dX12_parts_30 : decode cX12_parts 30 = .ok (.bipush 6, 2) := by decide +kernel
theorem dX12_parts_32 : decode cX12_parts 32 = .ok (.invokevirtual 77, 3) := by decide +kernel
theorem dX12_parts_35 : decode cX12_parts 35 = .ok (.goto 14, 3) := by decide +kernel
theorem dX12_parts_38 : decode cX12_parts 38 = .ok (.aload_n 0, 1) := by decide +kernel
theorem dX12_parts_39 : decode cX12_parts 39 = .ok (.aload_n 0, 1) := by decide +kernel
theorem dX12_parts_40 : decode cX12_parts 40 = .ok (.iload_n 2, 1) := by decide +kernel
theorem dX12_parts_41 : decode cX12_parts 41 = .ok (.iload_n 1, 1) := by decide +kernel
theorem dX12_parts_42 : decode cX12_parts 42 = .ok (.iload_n 1, 1) := by decide +kernel
theorem dX12_parts_43 : decode cX12_parts 43 = .ok (.invokevirtual 477, 3) := by decide +kernel
theorem dX12_parts_46 : decode cX12_parts 46 = .ok (.invokevirtual 81, 3) := by decide +kernel
theorem dX12_parts_49 : decode cX12_parts 49 = .ok (.ireturn, 1) := by decide +kernel
theorem dX12_best_0 : decode cX12_best 0 = .ok (.aload_n 0, 1) := by decide +kernel
theorem dX12_best_1 : decode cX12_best 1 = .ok (.iconst 0, 1) := by decide +kernel
theorem dX12_best_2 : decode cX12_best 2 = .ok (.putfield 71, 3) := by decide +kernel
theorem dX12_best_5 : decode cX12_best 5 = .ok (.aload_n 0, 1) := by decide +kernel
theorem dX12_best_6 : decode cX12_best 6 = .ok (.getfield 358, 3) := by decide +kernel
theorem dX12_best_9 : decode cX12_best 9 = .ok (.ifnonnull 9, 3) := by decide +kernel
theorem dX12_best_18 : decode cX12_best 18 = .ok (.aload_n 0, 1) := by decide +kernel
theorem dX12_best_19 : decode cX12_best 19 = .ok (.iconst 3, 1) := by decide +kernel
theorem dX12_best_20 : decode cX12_best 20 = .ok (.invokevirtual 464, 3) := by decide +kernel
theorem dX12_best_23 : decode cX12_best 23 = .ok (.istore_n 1, 1) := by decide +kernel
theorem dX12_best_24 : decode cX12_best 24 = .ok (.iload_n 1, 1) := by decide +kernel
theorem dX12_best_25 : decode cX12_best 25 = .ok (.ifCond .ne 10, 3) := by decide +kernel
theorem dX12_best_28 : decode cX12_best 28 = .ok (.aload_n 0, 1) := by decide +kernel
theorem dX12_best_29 : decode cX12_best 29 = .ok (.bipush 6, 2) := by decide +kernel
theorem dX12_best_31 : decode cX12_best 31 = .ok (.invokevirtual 77, 3) := by decide +kernel
theorem dX12_best_34 : decode cX12_best 34 = .ok (.ireturn, 1) := by decide +kernel
theorem dX12_best_35 : decode cX12_best 35 = .ok (.iconst (-1), 1) := by decide +kernel
theorem dX12_best_36 : decode cX12_best 36 = .ok (.istore_n 2, 1) := by decide +kernel
theorem dX12_best_37 : decode cX12_best 37 = .ok (.iconst 0, 1) := by decide +kernel
theorem dX12_best_38 : decode cX12_best 38 = .ok (.istore_n 3, 1) := by decide +kernel
theorem dX12_best_39 : decode cX12_best 39 = .ok (.iconst 0, 1) := by decide +kernel
theorem dX12_best_40 : decode cX12_best 40 = .ok (.istore 4, 2) := by decide +kernel
theorem dX12_best_42 : decode cX12_best 42 = .ok (.iload 4, 2) := by decide +kernel
theorem dX12_best_44 : decode cX12_best 44 = .ok (.aload_n 0, 1) := by decide +kernel
theorem dX12_best_45 : decode cX12_best 45 = .ok (.invokevirtual 385, 3) := by decide +kernel
theorem dX12_best_48 : decode cX12_best 48 = .ok (.if_icmp .ge 40, 3) := by decide +kernel
theorem dX12_best_51 : decode cX12_best 51 = .ok (.aload_n 0, 1) := by decide +kernel
theorem dX12_best_52 : decode cX12_best 52 = .ok (.iload_n 1, 1) := by decide +kernel
theorem dX12_best_53 : decode cX12_best 53 = .ok (.iload 4, 2) := by decide +kernel
theorem dX12_best_55 : decode cX12_best 55 = .ok (.iload 4, 2) := by decide +kernel
theorem dX12_best_57 : decode cX12_best 57 = .ok (.invokevirtual 477, 3) := by decide +kernel
theorem dX12_best_60 : decode cX12_best 60 = .ok (.istore 5, 2) := by decide +kernel
theorem dX12_best_62 : decode cX12_best 62 = .ok (.iload_n 2, 1) := by decide +kernel
theorem dX12_best_63 : decode cX12_best 63 = .ok (.iconst (-1), 1) := by decide +kernel
theorem dX12_best_64 : decode cX12_best 64 = .ok (.if_icmp .eq 12, 3) := by decide +kernel
theorem dX12_best_67 : decode cX12_best 67 = .ok (.iload 5, 2) := by decide +kernel
theorem dX12_best_69 : decode cX12_best 69 = .ok (.iload_n 3, 1) := by decide +kernel
theorem dX12_best_70 : decode cX12_best 70 = .ok (.if_icmp .lt 6, 3) := by decide +kernel
theorem dX12_best_73 : decode cX12_best 73 = .ok (.goto 9, 3) := by decide +kernel
theorem dX12_best_76 : decode cX12_best 76 = .ok (.iload 4, 2) := by decide +kernel
theorem dX12_best_78 : decode cX12_best 78 = .ok (.istore_n 2, 1) := by decide +kernel
theorem dX12_best_79 : decode cX12_best 79 = .ok (.iload 5, 2) := by decide +kernel
theorem dX12_best_81 : decode cX12_best 81 = .ok (.istore_n 3, 1) := by decide +kernel
theorem dX12_best_82 : decode cX12_best 82 = .ok (.iinc 4 1, 3) := by decide +kernel
theorem dX12_best_85 : decode cX12_best 85 = .ok (.goto (-43), 3) := by decide +kernel
theorem dX12_best_88 : decode cX12_best 88 = .ok (.aload_n 0, 1) := by decide +kernel
theorem dX12_best_89 : decode cX12_best 89 = .ok (.iload_n 2, 1) := by decide +kernel
theorem dX12_best_90 : decode cX12_best 90 = .ok (.invokevirtual 81, 3) := by decide +kernel
theorem dX12_best_93 : decode cX12_best 93 = .ok (.ireturn, 1) := by decide +kernel
theorem dX12_best_12 : decode cX12_best 12 = .ok (.aload_n 0, 1) := by decide +kernel
theorem dX12_best_13 : decode cX12_best 13 = .ok (.iconst 1, 1) := by decide +kernel
theorem dX12_best_14 : decode cX12_best 14 = .ok (.invokevirtual 77, 3) := by decide +kernel
theorem dX12_best_17 : decode cX12_best 17 = .ok (.ireturn, 1) := by decide +kernel
theorem dX12_told_0 : decode cX12_told 0 = .ok (.aload_n 0, 1) := by decide +kernel
theorem dX12_told_1 : decode cX12_told 1 = .ok (.iconst 0, 1) := by decide +kernel
theorem dX12_told_2 : decode cX12_told 2 = .ok (.putfield 71, 3) := by decide +kernel
theorem dX12_told_5 : decode cX12_told 5 = .ok (.aload_n 0, 1) := by decide +kernel
theorem dX12_told_6 : decode cX12_told 6 = .ok (.iload_n 1, 1) := by decide +kernel
theorem dX12_told_7 : decode cX12_told 7 = .ok (.invokevirtual 412, 3) := by decide +kernel
theorem dX12_told_10 : decode cX12_told 10 = .ok (.ifCond .eq 11, 3) := by decide +kernel
theorem dX12_told_13 : decode cX12_told 13 = .ok (.aload_n 0, 1) := by decide +kernel
theorem dX12_told_14 : decode cX12_told 14 = .ok (.iload_n 2, 1) := by decide +kernel
theorem dX12_told_15 : decode cX12_told 15 = .ok (.invokevirtual 412, 3) := by decide +kernel
theorem dX12_told_18 : decode cX12_told 18 = .ok (.ifCond .ne 9, 3) := by decide +kernel
theorem dX12_told_21 : decode cX12_told 21 = .ok (.aload_n 0, 1) := by decide +kernel
theorem dX12_told_22 : decode cX12_told 22 = .ok (.iconst 1, 1) := by decide +kernel
theorem dX12_told_23 : decode cX12_told 23 = .ok (.invokevirtual 77, 3) := by decide +kernel
theorem dX12_told_26 : decode cX12_told 26 = .ok (.ireturn, 1) := by decide +kernel
theorem dX12_told_27 : decode cX12_told 27 = .ok (.aload_n 0, 1) := by decide +kernel
theorem dX12_told_28 : decode cX12_told 28 = .ok (.iconst 3, 1) := by decide +kernel
theorem dX12_told_29 : decode cX12_told 29 = .ok (.invokevirtual 464, 3) := by decide +kernel
theorem dX12_told_32 : decode cX12_told 32 = .ok (.istore_n 3, 1) := by decide +kernel
theorem dX12_told_33 : decode cX12_told 33 = .ok (.iload_n 3, 1) := by decide +kernel
theorem dX12_told_34 : decode cX12_told 34 = .ok (.ifCond .ne 12, 3) := by decide +kernel
theorem dX12_told_37 : decode cX12_told 37 = .ok (.aload_n 0, 1) := by decide +kernel
theorem dX12_told_38 : decode cX12_told 38 = .ok (.bipush 6, 2) := by decide +kernel
theorem dX12_told_40 : decode cX12_told 40 = .ok (.invokevirtual 77, 3) := by decide +kernel
theorem dX12_told_43 : decode cX12_told 43 = .ok (.goto 14, 3) := by decide +kernel
theorem dX12_told_46 : decode cX12_told 46 = .ok (.aload_n 0, 1) := by decide +kernel
theorem dX12_told_47 : decode cX12_told 47 = .ok (.aload_n 0, 1) := by decide +kernel
theorem dX12_told_48 : decode cX12_told 48 = .ok (.iload_n 3, 1) := by decide +kernel
theorem dX12_told_49 : decode cX12_told 49 = .ok (.iload_n 1, 1) := by decide +kernel
theorem dX12_told_50 : decode cX12_told 50 = .ok (.iload_n 2, 1) := by decide +kernel
theorem dX12_told_51 : decode cX12_told 51 = .ok (.invokevirtual 477, 3) := by decide +kernel
theorem dX12_told_54 : decode cX12_told 54 = .ok (.invokevirtual 81, 3) := by decide +kernel
theorem dX12_told_57 : decode cX12_told 57 = .ok (.ireturn, 1) := by decide +kernel
theorem dX12_compares_0 : decode cX12_compares 0 = .ok (.iconst 0, 1) := by decide +kernel
theorem dX12_compares_1 : decode cX12_compares 1 = .ok (.istore_n 2, 1) := by decide +kernel
theorem dX12_compares_2 : decode cX12_compares 2 = .ok (.iload_n 2, 1) := by decide +kernel
theorem dX12_compares_3 : decode cX12_compares 3 = .ok (.iload_n 1, 1) := by decide +kernel
theorem dX12_compares_4 : decode cX12_compares 4 = .ok (.if_icmp .ge 18, 3) := by decide +kernel
theorem dX12_compares_7 : decode cX12_compares 7 = .ok (.aload_n 0, 1) := by decide +kernel
theorem dX12_compares_8 : decode cX12_compares 8 = .ok (.getfield 61, 3) := by decide +kernel
theorem dX12_compares_11 : decode cX12_compares 11 = .ok (.iload_n 2, 1) := by decide +kernel
theorem dX12_compares_12 : decode cX12_compares 12 = .ok (.ldc2_w 481, 3) := by decide +kernel
theorem dX12_compares_15 : decode cX12_compares 15 = .ok (.lastore, 1) := by decide +kernel
theorem dX12_compares_16 : decode cX12_compares 16 = .ok (.iinc 2 1, 3) := by decide +kernel
theorem dX12_compares_19 : decode cX12_compares 19 = .ok (.goto (-17), 3) := by decide +kernel
theorem dX12_compares_22 : decode cX12_compares 22 = .ok (.iconst 0, 1) := by decide +kernel
theorem dX12_compares_23 : decode cX12_compares 23 = .ok (.istore_n 2, 1) := by decide +kernel
theorem dX12_compares_24 : decode cX12_compares 24 = .ok (.iload_n 2, 1) := by decide +kernel
theorem dX12_compares_25 : decode cX12_compares 25 = .ok (.aload_n 0, 1) := by decide +kernel
theorem dX12_compares_26 : decode cX12_compares 26 = .ok (.invokevirtual 385, 3) := by decide +kernel
theorem dX12_compares_29 : decode cX12_compares 29 = .ok (.if_icmp .ge 105, 3) := by decide +kernel
theorem dX12_compares_32 : decode cX12_compares 32 = .ok (.aload_n 0, 1) := by decide +kernel
theorem dX12_compares_33 : decode cX12_compares 33 = .ok (.aload_n 0, 1) := by decide +kernel
theorem dX12_compares_34 : decode cX12_compares 34 = .ok (.getfield 27, 3) := by decide +kernel
theorem dX12_compares_37 : decode cX12_compares 37 = .ok (.putfield 36, 3) := by decide +kernel
theorem dX12_compares_40 : decode cX12_compares 40 = .ok (.iconst 0, 1) := by decide +kernel
theorem dX12_compares_41 : decode cX12_compares 41 = .ok (.istore_n 3, 1) := by decide +kernel
theorem dX12_compares_42 : decode cX12_compares 42 = .ok (.iload_n 3, 1) := by decide +kernel
theorem dX12_compares_43 : decode cX12_compares 43 = .ok (.iload_n 1, 1) := by decide +kernel
theorem dX12_compares_44 : decode cX12_compares 44 = .ok (.if_icmp .ge 21, 3) := by decide +kernel
theorem dX12_compares_47 : decode cX12_compares 47 = .ok (.aload_n 0, 1) := by decide +kernel
theorem dX12_compares_48 : decode cX12_compares 48 = .ok (.aload_n 0, 1) := by decide +kernel
theorem dX12_compares_49 : decode cX12_compares 49 = .ok (.getfield 55, 3) := by decide +kernel
theorem dX12_compares_52 : decode cX12_compares 52 = .ok (.iload_n 3, 1) := by decide +kernel
theorem dX12_compares_53 : decode cX12_compares 53 = .ok (.iaload, 1) := by decide +kernel
theorem dX12_compares_54 : decode cX12_compares 54 = .ok (.iload_n 2, 1) := by decide +kernel
theorem dX12_compares_55 : decode cX12_compares 55 = .ok (.iload_n 3, 1) := by decide +kernel
theorem dX12_compares_56 : decode cX12_compares 56 = .ok (.invokevirtual 470, 3) := by decide +kernel
theorem dX12_compares_59 : decode cX12_compares 59 = .ok (.iinc 3 1, 3) := by decide +kernel
theorem dX12_compares_62 : decode cX12_compares 62 = .ok (.goto (-20), 3) := by decide +kernel
theorem dX12_compares_65 : decode cX12_compares 65 = .ok (.aload_n 0, 1) := by decide +kernel
theorem dX12_compares_66 : decode cX12_compares 66 = .ok (.aload_n 0, 1) := by decide +kernel
theorem dX12_compares_67 : decode cX12_compares 67 = .ok (.getfield 24, 3) := by decide +kernel
theorem dX12_compares_70 : decode cX12_compares 70 = .ok (.putfield 36, 3) := by decide +kernel
theorem dX12_compares_73 : decode cX12_compares 73 = .ok (.iconst 0, 1) := by decide +kernel
theorem dX12_compares_74 : decode cX12_compares 74 = .ok (.istore_n 3, 1) := by decide +kernel
theorem dX12_compares_75 : decode cX12_compares 75 = .ok (.iload_n 3, 1) := by decide +kernel
theorem dX12_compares_76 : decode cX12_compares 76 = .ok (.iload_n 1, 1) := by decide +kernel
theorem dX12_compares_77 : decode cX12_compares 77 = .ok (.if_icmp .ge 51, 3) := by decide +kernel
theorem dX12_compares_80 : decode cX12_compares 80 = .ok (.iconst 0, 1) := by decide +kernel
theorem dX12_compares_81 : decode cX12_compares 81 = .ok (.istore 4, 2) := by decide +kernel
theorem dX12_compares_83 : decode cX12_compares 83 = .ok (.iload 4, 2) := by decide +kernel
theorem dX12_compares_85 : decode cX12_compares 85 = .ok (.iload_n 1, 1) := by decide +kernel
theorem dX12_compares_86 : decode cX12_compares 86 = .ok (.if_icmp .ge 36, 3) := by decide +kernel
theorem dX12_compares_89 : decode cX12_compares 89 = .ok (.aload_n 0, 1) := by decide +kernel
theorem dX12_compares_90 : decode cX12_compares 90 = .ok (.iload_n 3, 1) := by decide +kernel
theorem dX12_compares_91 : decode cX12_compares 91 = .ok (.iload 4, 2) := by decide +kernel
theorem dX12_compares_93 : decode cX12_compares 93 = .ok (.invokevirtual 474, 3) := by decide +kernel
theorem dX12_compares_96 : decode cX12_compares 96 = .ok (.ifCond .ne 20, 3) := by decide +kernel
theorem dX12_compares_99 : decode cX12_compares 99 = .ok (.aload_n 0, 1) := by decide +kernel
theorem dX12_compares_100 : decode cX12_compares 100 = .ok (.getfield 61, 3) := by decide +kernel
theorem dX12_compares_103 : decode cX12_compares 103 = .ok (.iload_n 3, 1) := by decide +kernel
theorem dX12_compares_104 : decode cX12_compares 104 = .ok (.dup2, 1) := by decide +kernel
theorem dX12_compares_105 : decode cX12_compares 105 = .ok (.laload, 1) := by decide +kernel
theorem dX12_compares_106 : decode cX12_compares 106 = .ok (.lconst 1, 1) := by decide +kernel
theorem dX12_compares_107 : decode cX12_compares 107 = .ok (.iload 4, 2) := by decide +kernel
theorem dX12_compares_109 : decode cX12_compares 109 = .ok (.lshl, 1) := by decide +kernel
theorem dX12_compares_110 : decode cX12_compares 110 = .ok (.ldc2_w 481, 3) := by decide +kernel
theorem dX12_compares_113 : decode cX12_compares 113 = .ok (.lxor, 1) := by decide +kernel
theorem dX12_compares_114 : decode cX12_compares 114 = .ok (.land, 1) := by decide +kernel
theorem dX12_compares_115 : decode cX12_compares 115 = .ok (.lastore, 1) := by decide +kernel
theorem dX12_compares_116 : decode cX12_compares 116 = .ok (.iinc 4 1, 3) := by decide +kernel
theorem dX12_compares_119 : decode cX12_compares 119 = .ok (.goto (-36), 3) := by decide +kernel
theorem dX12_compares_122 : decode cX12_compares 122 = .ok (.iinc 3 1, 3) := by decide +kernel
theorem dX12_compares_125 : decode cX12_compares 125 = .ok (.goto (-50), 3) := by decide +kernel
theorem dX12_compares_128 : decode cX12_compares 128 = .ok (.iinc 2 1, 3) := by decide +kernel
theorem dX12_compares_131 : decode cX12_compares 131 = .ok (.goto (-107), 3) := by decide +kernel
theorem dX12_compares_134 : decode cX12_compares 134 = .ok (.return_, 1) := by decide +kernel
theorem dX12_alike_0 : decode cX12_alike 0 = .ok (.aload_n 0, 1) := by decide +kernel
theorem dX12_alike_1 : decode cX12_alike 1 = .ok (.iconst 0, 1) := by decide +kernel
theorem dX12_alike_2 : decode cX12_alike 2 = .ok (.putfield 71, 3) := by decide +kernel
theorem dX12_alike_5 : decode cX12_alike 5 = .ok (.aload_n 0, 1) := by decide +kernel
theorem dX12_alike_6 : decode cX12_alike 6 = .ok (.getfield 358, 3) := by decide +kernel
theorem dX12_alike_9 : decode cX12_alike 9 = .ok (.ifnull 16, 3) := by decide +kernel
theorem dX12_alike_12 : decode cX12_alike 12 = .ok (.iload_n 1, 1) := by decide +kernel
theorem dX12_alike_13 : decode cX12_alike 13 = .ok (.ifCond .lt 12, 3) := by decide +kernel
theorem dX12_alike_16 : decode cX12_alike 16 = .ok (.iload_n 2, 1) := by decide +kernel
theorem dX12_alike_17 : decode cX12_alike 17 = .ok (.ifCond .lt 8, 3) := by decide +kernel
theorem dX12_alike_20 : decode cX12_alike 20 = .ok (.iload_n 1, 1) := by decide +kernel
theorem dX12_alike_21 : decode cX12_alike 21 = .ok (.iload_n 2, 1) := by decide +kernel
theorem dX12_alike_22 : decode cX12_alike 22 = .ok (.if_icmp .ne 9, 3) := by decide +kernel
theorem dX12_alike_25 : decode cX12_alike 25 = .ok (.aload_n 0, 1) := by decide +kernel
theorem dX12_alike_26 : decode cX12_alike 26 = .ok (.iconst 1, 1) := by decide +kernel
theorem dX12_alike_27 : decode cX12_alike 27 = .ok (.invokevirtual 77, 3) := by decide +kernel
theorem dX12_alike_30 : decode cX12_alike 30 = .ok (.ireturn, 1) := by decide +kernel
theorem dX12_alike_31 : decode cX12_alike 31 = .ok (.aload_n 0, 1) := by decide +kernel
theorem dX12_alike_32 : decode cX12_alike 32 = .ok (.iconst 3, 1) := by decide +kernel
theorem dX12_alike_33 : decode cX12_alike 33 = .ok (.invokevirtual 464, 3) := by decide +kernel
theorem dX12_alike_36 : decode cX12_alike 36 = .ok (.istore_n 3, 1) := by decide +kernel
theorem dX12_alike_37 : decode cX12_alike 37 = .ok (.iload_n 1, 1) := by decide +kernel
theorem dX12_alike_38 : decode cX12_alike 38 = .ok (.iload_n 3, 1) := by decide +kernel
theorem dX12_alike_39 : decode cX12_alike 39 = .ok (.if_icmp .ge 8, 3) := by decide +kernel
theorem dX12_alike_42 : decode cX12_alike 42 = .ok (.iload_n 2, 1) := by decide +kernel
theorem dX12_alike_43 : decode cX12_alike 43 = .ok (.iload_n 3, 1) := by decide +kernel
theorem dX12_alike_44 : decode cX12_alike 44 = .ok (.if_icmp .lt 9, 3) := by decide +kernel
theorem dX12_alike_47 : decode cX12_alike 47 = .ok (.aload_n 0, 1) := by decide +kernel
theorem dX12_alike_48 : decode cX12_alike 48 = .ok (.iconst 1, 1) := by decide +kernel
theorem dX12_alike_49 : decode cX12_alike 49 = .ok (.invokevirtual 77, 3) := by decide +kernel
theorem dX12_alike_52 : decode cX12_alike 52 = .ok (.ireturn, 1) := by decide +kernel
theorem dX12_alike_53 : decode cX12_alike 53 = .ok (.aload_n 0, 1) := by decide +kernel
theorem dX12_alike_54 : decode cX12_alike 54 = .ok (.iload_n 3, 1) := by decide +kernel
theorem dX12_alike_55 : decode cX12_alike 55 = .ok (.invokevirtual 483, 3) := by decide +kernel
theorem dX12_alike_58 : decode cX12_alike 58 = .ok (.aload_n 0, 1) := by decide +kernel
theorem dX12_alike_59 : decode cX12_alike 59 = .ok (.aload_n 0, 1) := by decide +kernel
theorem dX12_alike_60 : decode cX12_alike 60 = .ok (.getfield 61, 3) := by decide +kernel
theorem dX12_alike_63 : decode cX12_alike 63 = .ok (.iload_n 1, 1) := by decide +kernel
theorem dX12_alike_64 : decode cX12_alike 64 = .ok (.laload, 1) := by decide +kernel
theorem dX12_alike_65 : decode cX12_alike 65 = .ok (.iload_n 2, 1) := by decide +kernel
theorem dX12_alike_66 : decode cX12_alike 66 = .ok (.lshr, 1) := by decide +kernel
theorem dX12_alike_67 : decode cX12_alike 67 = .ok (.lconst 1, 1) := by decide +kernel
theorem dX12_alike_68 : decode cX12_alike 68 = .ok (.land, 1) := by decide +kernel
theorem dX12_alike_69 : decode cX12_alike 69 = .ok (.lconst 1, 1) := by decide +kernel
theorem dX12_alike_70 : decode cX12_alike 70 = .ok (.lcmp, 1) := by decide +kernel
theorem dX12_alike_71 : decode cX12_alike 71 = .ok (.ifCond .ne 7, 3) := by decide +kernel
theorem dX12_alike_74 : decode cX12_alike 74 = .ok (.iconst 1, 1) := by decide +kernel
theorem dX12_alike_75 : decode cX12_alike 75 = .ok (.goto 4, 3) := by decide +kernel
theorem dX12_alike_78 : decode cX12_alike 78 = .ok (.iconst 0, 1) := by decide +kernel
theorem dX12_alike_79 : decode cX12_alike 79 = .ok (.invokevirtual 81, 3) := by decide +kernel
theorem dX12_alike_82 : decode cX12_alike 82 = .ok (.ireturn, 1) := by decide +kernel
theorem dX12_never_0 : decode cX12_never 0 = .ok (.aload_n 0, 1) := by decide +kernel
theorem dX12_never_1 : decode cX12_never 1 = .ok (.iconst 0, 1) := by decide +kernel
theorem dX12_never_2 : decode cX12_never 2 = .ok (.putfield 71, 3) := by decide +kernel
theorem dX12_never_5 : decode cX12_never 5 = .ok (.aload_n 0, 1) := by decide +kernel
theorem dX12_never_6 : decode cX12_never 6 = .ok (.getfield 358, 3) := by decide +kernel
theorem dX12_never_9 : decode cX12_never 9 = .ok (.ifnonnull 9, 3) := by decide +kernel
theorem dX12_never_18 : decode cX12_never 18 = .ok (.aload_n 0, 1) := by decide +kernel
theorem dX12_never_19 : decode cX12_never 19 = .ok (.iconst 3, 1) := by decide +kernel
theorem dX12_never_20 : decode cX12_never 20 = .ok (.invokevirtual 464, 3) := by decide +kernel
theorem dX12_never_23 : decode cX12_never 23 = .ok (.istore_n 1, 1) := by decide +kernel
theorem dX12_never_24 : decode cX12_never 24 = .ok (.aload_n 0, 1) := by decide +kernel
theorem dX12_never_25 : decode cX12_never 25 = .ok (.iload_n 1, 1) := by decide +kernel
theorem dX12_never_26 : decode cX12_never 26 = .ok (.invokevirtual 483, 3) := by decide +kernel
theorem dX12_never_29 : decode cX12_never 29 = .ok (.iconst 0, 1) := by decide +kernel
theorem dX12_never_30 : decode cX12_never 30 = .ok (.istore_n 2, 1) := by decide +kernel
theorem dX12_never_31 : decode cX12_never 31 = .ok (.iconst 0, 1) := by decide +kernel
theorem dX12_never_32 : decode cX12_never 32 = .ok (.istore_n 3, 1) := by decide +kernel
theorem dX12_never_33 : decode cX12_never 33 = .ok (.iload_n 3, 1) := by decide +kernel
theorem dX12_never_34 : decode cX12_never 34 = .ok (.iload_n 1, 1) := by decide +kernel
theorem dX12_never_35 : decode cX12_never 35 = .ok (.if_icmp .ge 48, 3) := by decide +kernel
theorem dX12_never_38 : decode cX12_never 38 = .ok (.iconst 0, 1) := by decide +kernel
theorem dX12_never_39 : decode cX12_never 39 = .ok (.istore 4, 2) := by decide +kernel
theorem dX12_never_41 : decode cX12_never 41 = .ok (.iload 4, 2) := by decide +kernel
theorem dX12_never_43 : decode cX12_never 43 = .ok (.iload_n 3, 1) := by decide +kernel
theorem dX12_never_44 : decode cX12_never 44 = .ok (.if_icmp .ge 33, 3) := by decide +kernel
theorem dX12_never_47 : decode cX12_never 47 = .ok (.iload_n 2, 1) := by decide +kernel
theorem dX12_never_48 : decode cX12_never 48 = .ok (.aload_n 0, 1) := by decide +kernel
theorem dX12_never_49 : decode cX12_never 49 = .ok (.getfield 61, 3) := by decide +kernel
theorem dX12_never_52 : decode cX12_never 52 = .ok (.iload_n 3, 1) := by decide +kernel
theorem dX12_never_53 : decode cX12_never 53 = .ok (.laload, 1) := by decide +kernel
theorem dX12_never_54 : decode cX12_never 54 = .ok (.iload 4, 2) := by decide +kernel
theorem dX12_never_56 : decode cX12_never 56 = .ok (.lshr, 1) := by decide +kernel
theorem dX12_never_57 : decode cX12_never 57 = .ok (.lconst 1, 1) := by decide +kernel
theorem dX12_never_58 : decode cX12_never 58 = .ok (.land, 1) := by decide +kernel
theorem dX12_never_59 : decode cX12_never 59 = .ok (.lconst 1, 1) := by decide +kernel
theorem dX12_never_60 : decode cX12_never 60 = .ok (.lcmp, 1) := by decide +kernel
theorem dX12_never_61 : decode cX12_never 61 = .ok (.ifCond .ne 7, 3) := by decide +kernel
theorem dX12_never_64 : decode cX12_never 64 = .ok (.iconst 1, 1) := by decide +kernel
theorem dX12_never_65 : decode cX12_never 65 = .ok (.goto 4, 3) := by decide +kernel
theorem dX12_never_68 : decode cX12_never 68 = .ok (.iconst 0, 1) := by decide +kernel
theorem dX12_never_69 : decode cX12_never 69 = .ok (.iadd, 1) := by decide +kernel
theorem dX12_never_70 : decode cX12_never 70 = .ok (.istore_n 2, 1) := by decide +kernel
theorem dX12_never_71 : decode cX12_never 71 = .ok (.iinc 4 1, 3) := by decide +kernel
theorem dX12_never_74 : decode cX12_never 74 = .ok (.goto (-33), 3) := by decide +kernel
theorem dX12_never_77 : decode cX12_never 77 = .ok (.iinc 3 1, 3) := by decide +kernel
theorem dX12_never_80 : decode cX12_never 80 = .ok (.goto (-47), 3) := by decide +kernel
theorem dX12_never_83 : decode cX12_never 83 = .ok (.aload_n 0, 1) := by decide +kernel
theorem dX12_never_84 : decode cX12_never 84 = .ok (.iload_n 2, 1) := by decide +kernel
theorem dX12_never_85 : decode cX12_never 85 = .ok (.invokevirtual 81, 3) := by decide +kernel
theorem dX12_never_88 : decode cX12_never 88 = .ok (.ireturn, 1) := by decide +kernel
theorem dX12_never_12 : decode cX12_never 12 = .ok (.aload_n 0, 1) := by decide +kernel
theorem dX12_never_13 : decode cX12_never 13 = .ok (.iconst 1, 1) := by decide +kernel
theorem dX12_never_14 : decode cX12_never 14 = .ok (.invokevirtual 77, 3) := by decide +kernel
theorem dX12_never_17 : decode cX12_never 17 = .ok (.ireturn, 1) := by decide +kernel
theorem dX12_toldLocked_0 : decode cX12_toldLocked 0 = .ok (.iconst 0, 1) := by decide +kernel
theorem dX12_toldLocked_1 : decode cX12_toldLocked 1 = .ok (.istore_n 1, 1) := by decide +kernel
theorem dX12_toldLocked_2 : decode cX12_toldLocked 2 = .ok (.iconst 0, 1) := by decide +kernel
theorem dX12_toldLocked_3 : decode cX12_toldLocked 3 = .ok (.istore_n 2, 1) := by decide +kernel
theorem dX12_toldLocked_4 : decode cX12_toldLocked 4 = .ok (.iload_n 2, 1) := by decide +kernel
theorem dX12_toldLocked_5 : decode cX12_toldLocked 5 = .ok (.aload_n 0, 1) := by decide +kernel
theorem dX12_toldLocked_6 : decode cX12_toldLocked 6 = .ok (.getfield 358, 3) := by decide +kernel
theorem dX12_toldLocked_9 : decode cX12_toldLocked 9 = .ok (.getfield 292, 3) := by decide +kernel
theorem dX12_toldLocked_12 : decode cX12_toldLocked 12 = .ok (.if_icmp .ge 32, 3) := by decide +kernel
theorem dX12_toldLocked_15 : decode cX12_toldLocked 15 = .ok (.iload_n 1, 1) := by decide +kernel
theorem dX12_toldLocked_16 : decode cX12_toldLocked 16 = .ok (.aload_n 0, 1) := by decide +kernel
theorem dX12_toldLocked_17 : decode cX12_toldLocked 17 = .ok (.getfield 358, 3) := by decide +kernel
theorem dX12_toldLocked_20 : decode cX12_toldLocked 20 = .ok (.getfield 310, 3) := by decide +kernel
theorem dX12_toldLocked_23 : decode cX12_toldLocked 23 = .ok (.iload_n 2, 1) := by decide +kernel
theorem dX12_toldLocked_24 : decode cX12_toldLocked 24 = .ok (.iaload, 1) := by decide +kernel
theorem dX12_toldLocked_25 : decode cX12_toldLocked 25 = .ok (.iconst 2, 1) := by decide +kernel
theorem dX12_toldLocked_26 : decode cX12_toldLocked 26 = .ok (.if_icmp .ne 9, 3) := by decide +kernel
theorem dX12_toldLocked_29 : decode cX12_toldLocked 29 = .ok (.iconst 1, 1) := by decide +kernel
theorem dX12_toldLocked_30 : decode cX12_toldLocked 30 = .ok (.iload_n 2, 1) := by decide +kernel
theorem dX12_toldLocked_31 : decode cX12_toldLocked 31 = .ok (.ishl, 1) := by decide +kernel
theorem dX12_toldLocked_32 : decode cX12_toldLocked 32 = .ok (.goto 4, 3) := by decide +kernel
theorem dX12_toldLocked_35 : decode cX12_toldLocked 35 = .ok (.iconst 0, 1) := by decide +kernel
theorem dX12_toldLocked_36 : decode cX12_toldLocked 36 = .ok (.ior, 1) := by decide +kernel
theorem dX12_toldLocked_37 : decode cX12_toldLocked 37 = .ok (.istore_n 1, 1) := by decide +kernel
theorem dX12_toldLocked_38 : decode cX12_toldLocked 38 = .ok (.iinc 2 1, 3) := by decide +kernel
theorem dX12_toldLocked_41 : decode cX12_toldLocked 41 = .ok (.goto (-37), 3) := by decide +kernel
theorem dX12_toldLocked_44 : decode cX12_toldLocked 44 = .ok (.iload_n 1, 1) := by decide +kernel
theorem dX12_toldLocked_45 : decode cX12_toldLocked 45 = .ok (.ireturn, 1) := by decide +kernel
theorem dX12_isBed_0 : decode cX12_isBed 0 = .ok (.iconst 0, 1) := by decide +kernel
theorem dX12_isBed_1 : decode cX12_isBed 1 = .ok (.istore_n 2, 1) := by decide +kernel
theorem dX12_isBed_2 : decode cX12_isBed 2 = .ok (.iload_n 2, 1) := by decide +kernel
theorem dX12_isBed_3 : decode cX12_isBed 3 = .ok (.aload_n 0, 1) := by decide +kernel
theorem dX12_isBed_4 : decode cX12_isBed 4 = .ok (.getfield 358, 3) := by decide +kernel
theorem dX12_isBed_7 : decode cX12_isBed 7 = .ok (.getfield 247, 3) := by decide +kernel
theorem dX12_isBed_10 : decode cX12_isBed 10 = .ok (.if_icmp .ge 24, 3) := by decide +kernel
theorem dX12_isBed_13 : decode cX12_isBed 13 = .ok (.aload_n 0, 1) := by decide +kernel
theorem dX12_isBed_14 : decode cX12_isBed 14 = .ok (.getfield 358, 3) := by decide +kernel
theorem dX12_isBed_17 : decode cX12_isBed 17 = .ok (.getfield 342, 3) := by decide +kernel
theorem dX12_isBed_20 : decode cX12_isBed 20 = .ok (.iload_n 2, 1) := by decide +kernel
theorem dX12_isBed_21 : decode cX12_isBed 21 = .ok (.iaload, 1) := by decide +kernel
theorem dX12_isBed_22 : decode cX12_isBed 22 = .ok (.iload_n 1, 1) := by decide +kernel
theorem dX12_isBed_23 : decode cX12_isBed 23 = .ok (.if_icmp .ne 5, 3) := by decide +kernel
theorem dX12_isBed_26 : decode cX12_isBed 26 = .ok (.iconst 1, 1) := by decide +kernel
theorem dX12_isBed_27 : decode cX12_isBed 27 = .ok (.ireturn, 1) := by decide +kernel
theorem dX12_isBed_28 : decode cX12_isBed 28 = .ok (.iinc 2 1, 3) := by decide +kernel
theorem dX12_isBed_31 : decode cX12_isBed 31 = .ok (.goto (-29), 3) := by decide +kernel
theorem dX12_isBed_34 : decode cX12_isBed 34 = .ok (.iconst 0, 1) := by decide +kernel
theorem dX12_isBed_35 : decode cX12_isBed 35 = .ok (.ireturn, 1) := by decide +kernel
theorem dX12_safest_0 : decode cX12_safest 0 = .ok (.aload_n 0, 1) := by decide +kernel
theorem dX12_safest_1 : decode cX12_safest 1 = .ok (.iload_n 1, 1) := by decide +kernel
theorem dX12_safest_2 : decode cX12_safest 2 = .ok (.invokevirtual 486, 3) := by decide +kernel
theorem dX12_safest_5 : decode cX12_safest 5 = .ok (.ifCond .eq 6, 3) := by decide +kernel
theorem dX12_safest_8 : decode cX12_safest 8 = .ok (.bipush (-2), 2) := by decide +kernel
theorem dX12_safest_10 : decode cX12_safest 10 = .ok (.ireturn, 1) := by decide +kernel
theorem dX12_safest_11 : decode cX12_safest 11 = .ok (.aload_n 0, 1) := by decide +kernel
theorem dX12_safest_12 : decode cX12_safest 12 = .ok (.invokevirtual 489, 3) := by decide +kernel
theorem dX12_safest_15 : decode cX12_safest 15 = .ok (.istore_n 2, 1) := by decide +kernel
theorem dX12_safest_16 : decode cX12_safest 16 = .ok (.iconst (-1), 1) := by decide +kernel
theorem dX12_safest_17 : decode cX12_safest 17 = .ok (.istore_n 3, 1) := by decide +kernel
theorem dX12_safest_18 : decode cX12_safest 18 = .ok (.iconst 0, 1) := by decide +kernel
theorem dX12_safest_19 : decode cX12_safest 19 = .ok (.istore 4, 2) := by decide +kernel
theorem dX12_safest_21 : decode cX12_safest 21 = .ok (.iload 4, 2) := by decide +kernel
theorem dX12_safest_23 : decode cX12_safest 23 = .ok (.iconst 1, 1) := by decide +kernel
theorem dX12_safest_24 : decode cX12_safest 24 = .ok (.aload_n 0, 1) := by decide +kernel
theorem dX12_safest_25 : decode cX12_safest 25 = .ok (.getfield 358, 3) := by decide +kernel
theorem dX12_safest_28 : decode cX12_safest 28 = .ok (.getfield 292, 3) := by decide +kernel
theorem dX12_safest_31 : decode cX12_safest 31 = .ok (.ishl, 1) := by decide +kernel
theorem dX12_safest_32 : decode cX12_safest 32 = .ok (.if_icmp .ge 109, 3) := by decide +kernel
theorem dX12_safest_35 : decode cX12_safest 35 = .ok (.iload 4, 2) := by decide +kernel
theorem dX12_safest_37 : decode cX12_safest 37 = .ok (.iload_n 2, 1) := by decide +kernel
theorem dX12_safest_38 : decode cX12_safest 38 = .ok (.iand, 1) := by decide +kernel
theorem dX12_safest_39 : decode cX12_safest 39 = .ok (.ifCond .ne 96, 3) := by decide +kernel
theorem dX12_safest_42 : decode cX12_safest 42 = .ok (.iload_n 3, 1) := by decide +kernel
theorem dX12_safest_43 : decode cX12_safest 43 = .ok (.iconst (-1), 1) := by decide +kernel
theorem dX12_safest_44 : decode cX12_safest 44 = .ok (.if_icmp .eq 18, 3) := by decide +kernel
theorem dX12_safest_47 : decode cX12_safest 47 = .ok (.iload 4, 2) := by decide +kernel
theorem dX12_safest_49 : decode cX12_safest 49 = .ok (.invokestatic 492, 3) := by decide +kernel
theorem dX12_safest_52 : decode cX12_safest 52 = .ok (.iload_n 3, 1) := by decide +kernel
theorem dX12_safest_53 : decode cX12_safest 53 = .ok (.invokestatic 492, 3) := by decide +kernel
theorem dX12_safest_56 : decode cX12_safest 56 = .ok (.if_icmp .lt 6, 3) := by decide +kernel
theorem dX12_safest_59 : decode cX12_safest 59 = .ok (.goto 76, 3) := by decide +kernel
theorem dX12_safest_62 : decode cX12_safest 62 = .ok (.aload_n 0, 1) := by decide +kernel
theorem dX12_safest_63 : decode cX12_safest 63 = .ok (.iload_n 1, 1) := by decide +kernel
theorem dX12_safest_64 : decode cX12_safest 64 = .ok (.iload 4, 2) := by decide +kernel
theorem dX12_safest_66 : decode cX12_safest 66 = .ok (.iload_n 2, 1) := by decide +kernel
theorem dX12_safest_67 : decode cX12_safest 67 = .ok (.ior, 1) := by decide +kernel
theorem dX12_safest_68 : decode cX12_safest 68 = .ok (.invokevirtual 376, 3) := by decide +kernel
theorem dX12_safest_71 : decode cX12_safest 71 = .ok (.iconst 1, 1) := by decide +kernel
theorem dX12_safest_72 : decode cX12_safest 72 = .ok (.istore 5, 2) := by decide +kernel
theorem dX12_safest_74 : decode cX12_safest 74 = .ok (.iconst 0, 1) := by decide +kernel
theorem dX12_safest_75 : decode cX12_safest 75 = .ok (.istore 6, 2) := by decide +kernel
theorem dX12_safest_77 : decode cX12_safest 77 = .ok (.iload 6, 2) := by decide +kernel
theorem dX12_safest_79 : decode cX12_safest 79 = .ok (.aload_n 0, 1) := by decide +kernel
theorem dX12_safest_80 : decode cX12_safest 80 = .ok (.getfield 358, 3) := by decide +kernel
theorem dX12_safest_83 : decode cX12_safest 83 = .ok (.getfield 247, 3) := by decide +kernel
theorem dX12_safest_86 : decode cX12_safest 86 = .ok (.if_icmp .ge 41, 3) := by decide +kernel
theorem dX12_safest_89 : decode cX12_safest 89 = .ok (.iload 5, 2) := by decide +kernel
theorem dX12_safest_91 : decode cX12_safest 91 = .ok (.ifCond .eq 27, 3) := by decide +kernel
theorem dX12_safest_94 : decode cX12_safest 94 = .ok (.aload_n 0, 1) := by decide +kernel
theorem dX12_safest_95 : decode cX12_safest 95 = .ok (.getfield 21, 3) := by decide +kernel
theorem dX12_safest_98 : decode cX12_safest 98 = .ok (.aload_n 0, 1) := by decide +kernel
theorem dX12_safest_99 : decode cX12_safest 99 = .ok (.getfield 358, 3) := by decide +kernel
theorem dX12_safest_102 : decode cX12_safest 102 = .ok (.getfield 342, 3) := by decide +kernel
theorem dX12_safest_105 : decode cX12_safest 105 = .ok (.iload 6, 2) := by decide +kernel
theorem dX12_safest_107 : decode cX12_safest 107 = .ok (.iaload, 1) := by decide +kernel
theorem dX12_safest_108 : decode cX12_safest 108 = .ok (.iaload, 1) := by decide +kernel
theorem dX12_safest_109 : decode cX12_safest 109 = .ok (.bipush 99, 2) := by decide +kernel
theorem dX12_safest_111 : decode cX12_safest 111 = .ok (.if_icmp .ne 7, 3) := by decide +kernel
theorem dX12_safest_114 : decode cX12_safest 114 = .ok (.iconst 1, 1) := by decide +kernel
theorem dX12_safest_115 : decode cX12_safest 115 = .ok (.goto 4, 3) := by decide +kernel
theorem dX12_safest_118 : decode cX12_safest 118 = .ok (.iconst 0, 1) := by decide +kernel
theorem dX12_safest_119 : decode cX12_safest 119 = .ok (.istore 5, 2) := by decide +kernel
theorem dX12_safest_121 : decode cX12_safest 121 = .ok (.iinc 6 1, 3) := by decide +kernel
theorem dX12_safest_124 : decode cX12_safest 124 = .ok (.goto (-47), 3) := by decide +kernel
theorem dX12_safest_127 : decode cX12_safest 127 = .ok (.iload 5, 2) := by decide +kernel
theorem dX12_safest_129 : decode cX12_safest 129 = .ok (.ifCond .eq 6, 3) := by decide +kernel
theorem dX12_safest_132 : decode cX12_safest 132 = .ok (.iload 4, 2) := by decide +kernel
theorem dX12_safest_134 : decode cX12_safest 134 = .ok (.istore_n 3, 1) := by decide +kernel
theorem dX12_safest_135 : decode cX12_safest 135 = .ok (.iinc 4 1, 3) := by decide +kernel
theorem dX12_safest_138 : decode cX12_safest 138 = .ok (.goto (-117), 3) := by decide +kernel
theorem dX12_safest_141 : decode cX12_safest 141 = .ok (.iload_n 3, 1) := by decide +kernel
theorem dX12_safest_142 : decode cX12_safest 142 = .ok (.ireturn, 1) := by decide +kernel
theorem dX12_safe_0 : decode cX12_safe 0 = .ok (.aload_n 0, 1) := by decide +kernel
theorem dX12_safe_1 : decode cX12_safe 1 = .ok (.iconst 0, 1) := by decide +kernel
theorem dX12_safe_2 : decode cX12_safe 2 = .ok (.putfield 71, 3) := by decide +kernel
theorem dX12_safe_5 : decode cX12_safe 5 = .ok (.aload_n 0, 1) := by decide +kernel
theorem dX12_safe_6 : decode cX12_safe 6 = .ok (.iload_n 1, 1) := by decide +kernel
theorem dX12_safe_7 : decode cX12_safe 7 = .ok (.invokevirtual 379, 3) := by decide +kernel
theorem dX12_safe_10 : decode cX12_safe 10 = .ok (.ifCond .ne 9, 3) := by decide +kernel
theorem dX12_safe_13 : decode cX12_safe 13 = .ok (.aload_n 0, 1) := by decide +kernel
theorem dX12_safe_14 : decode cX12_safe 14 = .ok (.iconst 1, 1) := by decide +kernel
theorem dX12_safe_15 : decode cX12_safe 15 = .ok (.invokevirtual 77, 3) := by decide +kernel
theorem dX12_safe_18 : decode cX12_safe 18 = .ok (.ireturn, 1) := by decide +kernel
theorem dX12_safe_19 : decode cX12_safe 19 = .ok (.aload_n 0, 1) := by decide +kernel
theorem dX12_safe_20 : decode cX12_safe 20 = .ok (.iload_n 1, 1) := by decide +kernel
theorem dX12_safe_21 : decode cX12_safe 21 = .ok (.invokevirtual 495, 3) := by decide +kernel
theorem dX12_safe_24 : decode cX12_safe 24 = .ok (.istore_n 2, 1) := by decide +kernel
theorem dX12_safe_25 : decode cX12_safe 25 = .ok (.aload_n 0, 1) := by decide +kernel
theorem dX12_safe_26 : decode cX12_safe 26 = .ok (.iload_n 2, 1) := by decide +kernel
theorem dX12_safe_27 : decode cX12_safe 27 = .ok (.bipush (-2), 2) := by decide +kernel
theorem dX12_safe_29 : decode cX12_safe 29 = .ok (.if_icmp .ne 8, 3) := by decide +kernel
theorem dX12_safe_32 : decode cX12_safe 32 = .ok (.bipush (-2), 2) := by decide +kernel
theorem dX12_safe_34 : decode cX12_safe 34 = .ok (.goto 7, 3) := by decide +kernel
theorem dX12_safe_37 : decode cX12_safe 37 = .ok (.iload_n 2, 1) := by decide +kernel
theorem dX12_safe_38 : decode cX12_safe 38 = .ok (.invokestatic 492, 3) := by decide +kernel
theorem dX12_safe_41 : decode cX12_safe 41 = .ok (.invokevirtual 81, 3) := by decide +kernel
theorem dX12_safe_44 : decode cX12_safe 44 = .ok (.ireturn, 1) := by decide +kernel
theorem dX12_safely_0 : decode cX12_safely 0 = .ok (.aload_n 0, 1) := by decide +kernel
theorem dX12_safely_1 : decode cX12_safely 1 = .ok (.iconst 0, 1) := by decide +kernel
theorem dX12_safely_2 : decode cX12_safely 2 = .ok (.putfield 71, 3) := by decide +kernel
theorem dX12_safely_5 : decode cX12_safely 5 = .ok (.aload_n 0, 1) := by decide +kernel
theorem dX12_safely_6 : decode cX12_safely 6 = .ok (.iload_n 1, 1) := by decide +kernel
theorem dX12_safely_7 : decode cX12_safely 7 = .ok (.invokevirtual 379, 3) := by decide +kernel
theorem dX12_safely_10 : decode cX12_safely 10 = .ok (.ifCond .eq 15, 3) := by decide +kernel
theorem dX12_safely_13 : decode cX12_safely 13 = .ok (.aload_n 0, 1) := by decide +kernel
theorem dX12_safely_14 : decode cX12_safely 14 = .ok (.aload_n 0, 1) := by decide +kernel
theorem dX12_safely_15 : decode cX12_safely 15 = .ok (.iload_n 1, 1) := by decide +kernel
theorem dX12_safely_16 : decode cX12_safely 16 = .ok (.invokevirtual 495, 3) := by decide +kernel
theorem dX12_safely_19 : decode cX12_safely 19 = .ok (.invokevirtual 81, 3) := by decide +kernel
theorem dX12_safely_22 : decode cX12_safely 22 = .ok (.goto 8, 3) := by decide +kernel
theorem dX12_safely_25 : decode cX12_safely 25 = .ok (.aload_n 0, 1) := by decide +kernel
theorem dX12_safely_26 : decode cX12_safely 26 = .ok (.iconst 1, 1) := by decide +kernel
theorem dX12_safely_27 : decode cX12_safely 27 = .ok (.invokevirtual 77, 3) := by decide +kernel
theorem dX12_safely_30 : decode cX12_safely 30 = .ok (.ireturn, 1) := by decide +kernel
theorem dX12_walksMore_0 : decode cX12_walksMore 0 = .ok (.iconst 0, 1) := by decide +kernel
theorem dX12_walksMore_1 : decode cX12_walksMore 1 = .ok (.istore_n 2, 1) := by decide +kernel
theorem dX12_walksMore_2 : decode cX12_walksMore 2 = .ok (.iload_n 2, 1) := by decide +kernel
theorem dX12_walksMore_3 : decode cX12_walksMore 3 = .ok (.bipush 8, 2) := by decide +kernel
theorem dX12_walksMore_5 : decode cX12_walksMore 5 = .ok (.if_icmp .ge 16, 3) := by decide +kernel
theorem dX12_walksMore_8 : decode cX12_walksMore 8 = .ok (.aload_n 0, 1) := by decide +kernel
theorem dX12_walksMore_9 : decode cX12_walksMore 9 = .ok (.getfield 68, 3) := by decide +kernel
theorem dX12_walksMore_12 : decode cX12_walksMore 12 = .ok (.iload_n 2, 1) := by decide +kernel
theorem dX12_walksMore_13 : decode cX12_walksMore 13 = .ok (.iconst (-1), 1) := by decide +kernel
theorem dX12_walksMore_14 : decode cX12_walksMore 14 = .ok (.iastore, 1) := by decide +kernel
theorem dX12_walksMore_15 : decode cX12_walksMore 15 = .ok (.iinc 2 1, 3) := by decide +kernel
theorem dX12_walksMore_18 : decode cX12_walksMore 18 = .ok (.goto (-16), 3) := by decide +kernel
theorem dX12_walksMore_21 : decode cX12_walksMore 21 = .ok (.iconst 0, 1) := by decide +kernel
theorem dX12_walksMore_22 : decode cX12_walksMore 22 = .ok (.istore_n 2, 1) := by decide +kernel
theorem dX12_walksMore_23 : decode cX12_walksMore 23 = .ok (.iload_n 2, 1) := by decide +kernel
theorem dX12_walksMore_24 : decode cX12_walksMore 24 = .ok (.aload_n 0, 1) := by decide +kernel
theorem dX12_walksMore_25 : decode cX12_walksMore 25 = .ok (.getfield 358, 3) := by decide +kernel
theorem dX12_walksMore_28 : decode cX12_walksMore 28 = .ok (.getfield 247, 3) := by decide +kernel
theorem dX12_walksMore_31 : decode cX12_walksMore 31 = .ok (.if_icmp .ge 25, 3) := by decide +kernel
theorem dX12_walksMore_34 : decode cX12_walksMore 34 = .ok (.aload_n 0, 1) := by decide +kernel
theorem dX12_walksMore_35 : decode cX12_walksMore 35 = .ok (.getfield 68, 3) := by decide +kernel
theorem dX12_walksMore_38 : decode cX12_walksMore 38 = .ok (.aload_n 0, 1) := by decide +kernel
theorem dX12_walksMore_39 : decode cX12_walksMore 39 = .ok (.getfield 358, 3) := by decide +kernel
theorem dX12_walksMore_42 : decode cX12_walksMore 42 = .ok (.getfield 342, 3) := by decide +kernel
theorem dX12_walksMore_45 : decode cX12_walksMore 45 = .ok (.iload_n 2, 1) := by decide +kernel
theorem dX12_walksMore_46 : decode cX12_walksMore 46 = .ok (.iaload, 1) := by decide +kernel
theorem dX12_walksMore_47 : decode cX12_walksMore 47 = .ok (.bipush 10, 2) := by decide +kernel
theorem dX12_walksMore_49 : decode cX12_walksMore 49 = .ok (.iastore, 1) := by decide +kernel
theorem dX12_walksMore_50 : decode cX12_walksMore 50 = .ok (.iinc 2 1, 3) := by decide +kernel
theorem dX12_walksMore_53 : decode cX12_walksMore 53 = .ok (.goto (-30), 3) := by decide +kernel
theorem dX12_walksMore_56 : decode cX12_walksMore 56 = .ok (.iconst 1, 1) := by decide +kernel
theorem dX12_walksMore_57 : decode cX12_walksMore 57 = .ok (.istore_n 2, 1) := by decide +kernel
theorem dX12_walksMore_58 : decode cX12_walksMore 58 = .ok (.iload_n 2, 1) := by decide +kernel
theorem dX12_walksMore_59 : decode cX12_walksMore 59 = .ok (.ifCond .eq 172, 3) := by decide +kernel
theorem dX12_walksMore_62 : decode cX12_walksMore 62 = .ok (.aload_n 0, 1) := by decide +kernel
theorem dX12_walksMore_63 : decode cX12_walksMore 63 = .ok (.getfield 68, 3) := by decide +kernel
theorem dX12_walksMore_66 : decode cX12_walksMore 66 = .ok (.iload_n 1, 1) := by decide +kernel
theorem dX12_walksMore_67 : decode cX12_walksMore 67 = .ok (.iaload, 1) := by decide +kernel
theorem dX12_walksMore_68 : decode cX12_walksMore 68 = .ok (.iconst (-1), 1) := by decide +kernel
theorem dX12_walksMore_69 : decode cX12_walksMore 69 = .ok (.if_icmp .ne 162, 3) := by decide +kernel
theorem dX12_walksMore_72 : decode cX12_walksMore 72 = .ok (.iconst 0, 1) := by decide +kernel
theorem dX12_walksMore_73 : decode cX12_walksMore 73 = .ok (.istore_n 2, 1) := by decide +kernel
theorem dX12_walksMore_74 : decode cX12_walksMore 74 = .ok (.iconst 0, 1) := by decide +kernel
theorem dX12_walksMore_75 : decode cX12_walksMore 75 = .ok (.istore_n 3, 1) := by decide +kernel
theorem dX12_walksMore_76 : decode cX12_walksMore 76 = .ok (.iload_n 3, 1) := by decide +kernel
theorem dX12_walksMore_77 : decode cX12_walksMore 77 = .ok (.aload_n 0, 1) := by decide +kernel
theorem dX12_walksMore_78 : decode cX12_walksMore 78 = .ok (.getfield 358, 3) := by decide +kernel
theorem dX12_walksMore_81 : decode cX12_walksMore 81 = .ok (.getfield 292, 3) := by decide +kernel
theorem dX12_walksMore_84 : decode cX12_walksMore 84 = .ok (.if_icmp .ge 144, 3) := by decide +kernel
theorem dX12_walksMore_87 : decode cX12_walksMore 87 = .ok (.aload_n 0, 1) := by decide +kernel
theorem dX12_walksMore_88 : decode cX12_walksMore 88 = .ok (.getfield 358, 3) := by decide +kernel
theorem dX12_walksMore_91 : decode cX12_walksMore 91 = .ok (.getfield 310, 3) := by decide +kernel
theorem dX12_walksMore_94 : decode cX12_walksMore 94 = .ok (.iload_n 3, 1) := by decide +kernel
theorem dX12_walksMore_95 : decode cX12_walksMore 95 = .ok (.iaload, 1) := by decide +kernel
theorem dX12_walksMore_96 : decode cX12_walksMore 96 = .ok (.iconst 2, 1) := by decide +kernel
theorem dX12_walksMore_97 : decode cX12_walksMore 97 = .ok (.if_icmp .ne 6, 3) := by decide +kernel
theorem dX12_walksMore_100 : decode cX12_walksMore 100 = .ok (.goto 122, 3) := by decide +kernel
theorem dX12_walksMore_103 : decode cX12_walksMore 103 = .ok (.iconst 1, 1) := by decide +kernel
theorem dX12_walksMore_104 : decode cX12_walksMore 104 = .ok (.istore 4, 2) := by decide +kernel
theorem dX12_walksMore_106 : decode cX12_walksMore 106 = .ok (.iload 4, 2) := by decide +kernel
theorem dX12_walksMore_108 : decode cX12_walksMore 108 = .ok (.iconst 3, 1) := by decide +kernel
theorem dX12_walksMore_109 : decode cX12_walksMore 109 = .ok (.if_icmp .ge 113, 3) := by decide +kernel
theorem dX12_walksMore_112 : decode cX12_walksMore 112 = .ok (.iload 4, 2) := by decide +kernel
theorem dX12_walksMore_114 : decode cX12_walksMore 114 = .ok (.iconst 1, 1) := by decide +kernel
theorem dX12_walksMore_115 : decode cX12_walksMore 115 = .ok (.if_icmp .ne 15, 3) := by decide +kernel
theorem dX12_walksMore_118 : decode cX12_walksMore 118 = .ok (.aload_n 0, 1) := by decide +kernel
theorem dX12_walksMore_119 : decode cX12_walksMore 119 = .ok (.getfield 358, 3) := by decide +kernel
theorem dX12_walksMore_122 : decode cX12_walksMore 122 = .ok (.getfield 304, 3) := by decide +kernel
theorem dX12_walksMore_125 : decode cX12_walksMore 125 = .ok (.iload_n 3, 1) := by decide +kernel
theorem dX12_walksMore_126 : decode cX12_walksMore 126 = .ok (.iaload, 1) := by decide +kernel
theorem dX12_walksMore_127 : decode cX12_walksMore 127 = .ok (.goto 12, 3) := by decide +kernel
theorem dX12_walksMore_130 : decode cX12_walksMore 130 = .ok (.aload_n 0, 1) := by decide +kernel
theorem dX12_walksMore_131 : decode cX12_walksMore 131 = .ok (.getfield 358, 3) := by decide +kernel
theorem dX12_walksMore_134 : decode cX12_walksMore 134 = .ok (.getfield 307, 3) := by decide +kernel
theorem dX12_walksMore_137 : decode cX12_walksMore 137 = .ok (.iload_n 3, 1) := by decide +kernel
theorem dX12_walksMore_138 : decode cX12_walksMore 138 = .ok (.iaload, 1) := by decide +kernel
theorem dX12_walksMore_139 : decode cX12_walksMore 139 = .ok (.istore 5, 2) := by decide +kernel
theorem dX12_walksMore_141 : decode cX12_walksMore 141 = .ok (.iload 4, 2) := by decide +kernel
theorem dX12_walksMore_143 : decode cX12_walksMore 143 = .ok (.iconst 1, 1) := by decide +kernel
theorem dX12_walksMore_144 : decode cX12_walksMore 144 = .ok (.if_icmp .ne 15, 3) := by decide +kernel
theorem dX12_walksMore_147 : decode cX12_walksMore 147 = .ok (.aload_n 0, 1) := by decide +kernel
theorem dX12_walksMore_148 : decode cX12_walksMore 148 = .ok (.getfield 358, 3) := by decide +kernel
theorem dX12_walksMore_151 : decode cX12_walksMore 151 = .ok (.getfield 307, 3) := by decide +kernel
theorem dX12_walksMore_154 : decode cX12_walksMore 154 = .ok (.iload_n 3, 1) := by decide +kernel
theorem dX12_walksMore_155 : decode cX12_walksMore 155 = .ok (.iaload, 1) := by decide +kernel
theorem dX12_walksMore_156 : decode cX12_walksMore 156 = .ok (.goto 12, 3) := by decide +kernel
theorem dX12_walksMore_159 : decode cX12_walksMore 159 = .ok (.aload_n 0, 1) := by decide +kernel
theorem dX12_walksMore_160 : decode cX12_walksMore 160 = .ok (.getfield 358, 3) := by decide +kernel
theorem dX12_walksMore_163 : decode cX12_walksMore 163 = .ok (.getfield 304, 3) := by decide +kernel
theorem dX12_walksMore_166 : decode cX12_walksMore 166 = .ok (.iload_n 3, 1) := by decide +kernel
theorem dX12_walksMore_167 : decode cX12_walksMore 167 = .ok (.iaload, 1) := by decide +kernel
theorem dX12_walksMore_168 : decode cX12_walksMore 168 = .ok (.istore 6, 2) := by decide +kernel
theorem dX12_walksMore_170 : decode cX12_walksMore 170 = .ok (.aload_n 0, 1) := by decide +kernel
theorem dX12_walksMore_171 : decode cX12_walksMore 171 = .ok (.getfield 68, 3) := by decide +kernel
theorem dX12_walksMore_174 : decode cX12_walksMore 174 = .ok (.iload 5, 2) := by decide +kernel
theorem dX12_walksMore_176 : decode cX12_walksMore 176 = .ok (.iaload, 1) := by decide +kernel
theorem dX12_walksMore_177 : decode cX12_walksMore 177 = .ok (.iconst (-1), 1) := by decide +kernel
theorem dX12_walksMore_178 : decode cX12_walksMore 178 = .ok (.if_icmp .eq 38, 3) := by decide +kernel
theorem dX12_walksMore_181 : decode cX12_walksMore 181 = .ok (.aload_n 0, 1) := by decide +kernel
theorem dX12_walksMore_182 : decode cX12_walksMore 182 = .ok (.getfield 68, 3) := by decide +kernel
theorem dX12_walksMore_185 : decode cX12_walksMore 185 = .ok (.iload 6, 2) := by decide +kernel
theorem dX12_walksMore_187 : decode cX12_walksMore 187 = .ok (.iaload, 1) := by decide +kernel
theorem dX12_walksMore_188 : decode cX12_walksMore 188 = .ok (.iconst (-1), 1) := by decide +kernel
theorem dX12_walksMore_189 : decode cX12_walksMore 189 = .ok (.if_icmp .ne 27, 3) := by decide +kernel
theorem dX12_walksMore_192 : decode cX12_walksMore 192 = .ok (.aload_n 0, 1) := by decide +kernel
theorem dX12_walksMore_193 : decode cX12_walksMore 193 = .ok (.getfield 65, 3) := by decide +kernel
theorem dX12_walksMore_196 : decode cX12_walksMore 196 = .ok (.iload_n 3, 1) := by decide +kernel
theorem dX12_walksMore_197 : decode cX12_walksMore 197 = .ok (.iaload, 1) := by decide +kernel
theorem dX12_walksMore_198 : decode cX12_walksMore 198 = .ok (.iload 4, 2) := by decide +kernel
theorem dX12_walksMore_200 : decode cX12_walksMore 200 = .ok (.if_icmp .ne 6, 3) := by decide +kernel
theorem dX12_walksMore_203 : decode cX12_walksMore 203 = .ok (.goto 13, 3) := by decide +kernel
theorem dX12_walksMore_206 : decode cX12_walksMore 206 = .ok (.aload_n 0, 1) := by decide +kernel
theorem dX12_walksMore_207 : decode cX12_walksMore 207 = .ok (.getfield 68, 3) := by decide +kernel
theorem dX12_walksMore_210 : decode cX12_walksMore 210 = .ok (.iload 6, 2) := by decide +kernel
theorem dX12_walksMore_212 : decode cX12_walksMore 212 = .ok (.iload_n 3, 1) := by decide +kernel
theorem dX12_walksMore_213 : decode cX12_walksMore 213 = .ok (.iastore, 1) := by decide +kernel
theorem dX12_walksMore_214 : decode cX12_walksMore 214 = .ok (.iconst 1, 1) := by decide +kernel
theorem dX12_walksMore_215 : decode cX12_walksMore 215 = .ok (.istore_n 2, 1) := by decide +kernel
theorem dX12_walksMore_216 : decode cX12_walksMore 216 = .ok (.iinc 4 1, 3) := by decide +kernel
theorem dX12_walksMore_219 : decode cX12_walksMore 219 = .ok (.goto (-113), 3) := by decide +kernel
theorem dX12_walksMore_222 : decode cX12_walksMore 222 = .ok (.iinc 3 1, 3) := by decide +kernel
theorem dX12_walksMore_225 : decode cX12_walksMore 225 = .ok (.goto (-149), 3) := by decide +kernel
theorem dX12_walksMore_228 : decode cX12_walksMore 228 = .ok (.goto (-170), 3) := by decide +kernel
theorem dX12_walksMore_231 : decode cX12_walksMore 231 = .ok (.aload_n 0, 1) := by decide +kernel
theorem dX12_walksMore_232 : decode cX12_walksMore 232 = .ok (.getfield 68, 3) := by decide +kernel
theorem dX12_walksMore_235 : decode cX12_walksMore 235 = .ok (.iload_n 1, 1) := by decide +kernel
theorem dX12_walksMore_236 : decode cX12_walksMore 236 = .ok (.iaload, 1) := by decide +kernel
theorem dX12_walksMore_237 : decode cX12_walksMore 237 = .ok (.iconst (-1), 1) := by decide +kernel
theorem dX12_walksMore_238 : decode cX12_walksMore 238 = .ok (.if_icmp .ne 5, 3) := by decide +kernel
theorem dX12_walksMore_241 : decode cX12_walksMore 241 = .ok (.iconst 0, 1) := by decide +kernel
theorem dX12_walksMore_242 : decode cX12_walksMore 242 = .ok (.ireturn, 1) := by decide +kernel
theorem dX12_walksMore_243 : decode cX12_walksMore 243 = .ok (.iload_n 1, 1) := by decide +kernel
theorem dX12_walksMore_244 : decode cX12_walksMore 244 = .ok (.istore_n 3, 1) := by decide +kernel
theorem dX12_walksMore_245 : decode cX12_walksMore 245 = .ok (.aload_n 0, 1) := by decide +kernel
theorem dX12_walksMore_246 : decode cX12_walksMore 246 = .ok (.getfield 68, 3) := by decide +kernel
theorem dX12_walksMore_249 : decode cX12_walksMore 249 = .ok (.iload_n 3, 1) := by decide +kernel
theorem dX12_walksMore_250 : decode cX12_walksMore 250 = .ok (.iaload, 1) := by decide +kernel
theorem dX12_walksMore_251 : decode cX12_walksMore 251 = .ok (.bipush 10, 2) := by decide +kernel
theorem dX12_walksMore_253 : decode cX12_walksMore 253 = .ok (.if_icmp .eq 95, 3) := by decide +kernel
theorem dX12_walksMore_256 : decode cX12_walksMore 256 = .ok (.aload_n 0, 1) := by decide +kernel
theorem dX12_walksMore_257 : decode cX12_walksMore 257 = .ok (.getfield 68, 3) := by decide +kernel
theorem dX12_walksMore_260 : decode cX12_walksMore 260 = .ok (.iload_n 3, 1) := by decide +kernel
theorem dX12_walksMore_261 : decode cX12_walksMore 261 = .ok (.iaload, 1) := by decide +kernel
theorem dX12_walksMore_262 : decode cX12_walksMore 262 = .ok (.istore 4, 2) := by decide +kernel
theorem dX12_walksMore_264 : decode cX12_walksMore 264 = .ok (.aload_n 0, 1) := by decide +kernel
theorem dX12_walksMore_265 : decode cX12_walksMore 265 = .ok (.getfield 358, 3) := by decide +kernel
theorem dX12_walksMore_268 : decode cX12_walksMore 268 = .ok (.getfield 307, 3) := by decide +kernel
theorem dX12_walksMore_271 : decode cX12_walksMore 271 = .ok (.iload 4, 2) := by decide +kernel
theorem dX12_walksMore_273 : decode cX12_walksMore 273 = .ok (.iaload, 1) := by decide +kernel
theorem dX12_walksMore_274 : decode cX12_walksMore 274 = .ok (.iload_n 3, 1) := by decide +kernel
theorem dX12_walksMore_275 : decode cX12_walksMore 275 = .ok (.if_icmp .ne 7, 3) := by decide +kernel
theorem dX12_walksMore_278 : decode cX12_walksMore 278 = .ok (.iconst 1, 1) := by decide +kernel
theorem dX12_walksMore_279 : decode cX12_walksMore 279 = .ok (.goto 4, 3) := by decide +kernel
theorem dX12_walksMore_282 : decode cX12_walksMore 282 = .ok (.iconst 0, 1) := by decide +kernel
theorem dX12_walksMore_283 : decode cX12_walksMore 283 = .ok (.istore 5, 2) := by decide +kernel
theorem dX12_walksMore_285 : decode cX12_walksMore 285 = .ok (.aload_n 0, 1) := by decide +kernel
theorem dX12_walksMore_286 : decode cX12_walksMore 286 = .ok (.getfield 65, 3) := by decide +kernel
theorem dX12_walksMore_289 : decode cX12_walksMore 289 = .ok (.iload 4, 2) := by decide +kernel
theorem dX12_walksMore_291 : decode cX12_walksMore 291 = .ok (.aload_n 0, 1) := by decide +kernel
theorem dX12_walksMore_292 : decode cX12_walksMore 292 = .ok (.getfield 65, 3) := by decide +kernel
theorem dX12_walksMore_295 : decode cX12_walksMore 295 = .ok (.iload 4, 2) := by decide +kernel
theorem dX12_walksMore_297 : decode cX12_walksMore 297 = .ok (.iaload, 1) := by decide +kernel
theorem dX12_walksMore_298 : decode cX12_walksMore 298 = .ok (.ifCond .eq 7, 3) := by decide +kernel
theorem dX12_walksMore_301 : decode cX12_walksMore 301 = .ok (.iconst 0, 1) := by decide +kernel
theorem dX12_walksMore_302 : decode cX12_walksMore 302 = .ok (.goto 13, 3) := by decide +kernel
theorem dX12_walksMore_305 : decode cX12_walksMore 305 = .ok (.iload 5, 2) := by decide +kernel
theorem dX12_walksMore_307 : decode cX12_walksMore 307 = .ok (.ifCond .eq 7, 3) := by decide +kernel
theorem dX12_walksMore_310 : decode cX12_walksMore 310 = .ok (.iconst 1, 1) := by decide +kernel
theorem dX12_walksMore_311 : decode cX12_walksMore 311 = .ok (.goto 4, 3) := by decide +kernel
theorem dX12_walksMore_314 : decode cX12_walksMore 314 = .ok (.iconst 2, 1) := by decide +kernel
theorem dX12_walksMore_315 : decode cX12_walksMore 315 = .ok (.iastore, 1) := by decide +kernel
theorem dX12_walksMore_316 : decode cX12_walksMore 316 = .ok (.iload 5, 2) := by decide +kernel
theorem dX12_walksMore_318 : decode cX12_walksMore 318 = .ok (.ifCond .eq 16, 3) := by decide +kernel
theorem dX12_walksMore_321 : decode cX12_walksMore 321 = .ok (.aload_n 0, 1) := by decide +kernel
theorem dX12_walksMore_322 : decode cX12_walksMore 322 = .ok (.getfield 358, 3) := by decide +kernel
theorem dX12_walksMore_325 : decode cX12_walksMore 325 = .ok (.getfield 304, 3) := by decide +kernel
theorem dX12_walksMore_328 : decode cX12_walksMore 328 = .ok (.iload 4, 2) := by decide +kernel
theorem dX12_walksMore_330 : decode cX12_walksMore 330 = .ok (.iaload, 1) := by decide +kernel
theorem dX12_walksMore_331 : decode cX12_walksMore 331 = .ok (.goto 13, 3) := by decide +kernel
theorem dX12_walksMore_334 : decode cX12_walksMore 334 = .ok (.aload_n 0, 1) := by decide +kernel
theorem dX12_walksMore_335 : decode cX12_walksMore 335 = .ok (.getfield 358, 3) := by decide +kernel
theorem dX12_walksMore_338 : decode cX12_walksMore 338 = .ok (.getfield 307, 3) := by decide +kernel
theorem dX12_walksMore_341 : decode cX12_walksMore 341 = .ok (.iload 4, 2) := by decide +kernel
theorem dX12_walksMore_343 : decode cX12_walksMore 343 = .ok (.iaload, 1) := by decide +kernel
theorem dX12_walksMore_344 : decode cX12_walksMore 344 = .ok (.istore_n 3, 1) := by decide +kernel
theorem dX12_walksMore_345 : decode cX12_walksMore 345 = .ok (.goto (-100), 3) := by decide +kernel
theorem dX12_walksMore_348 : decode cX12_walksMore 348 = .ok (.iconst 1, 1) := by decide +kernel
theorem dX12_walksMore_349 : decode cX12_walksMore 349 = .ok (.ireturn, 1) := by decide +kernel
def wX12_isAlike (E : EN) (h h_tape h_far h_from h_real h_other h_kept h_set h_w h_book h_noteSort h_whose h_what h_noteIs h_fitting h_dawn h_likes h_walked h_came : Nat) (v_thrown : Int32) (v_trouble : Int32) (v_where : Int32) (v_inn : Option Nat) (v_read : Option Nat) (v_taped : Int32) (v_size : Int32) (v_at : Int32) (v_sort : Int32) (v_place : Int32) (v_sign : Int32) (v_number : Int32) (v_fault : Int32) (v_wrongAt : Int32) (v_word : Int64) (v_marks : Int32) (v_notes : Int32) (v_dawn : Nat → Int32) : va_W := [(h, .inr (11, [.int v_thrown, .int v_trouble, .int v_where, va_rf v_inn, va_rf v_read, .ref h_tape, .int v_taped, .int v_size, .int v_at, .int v_sort, .int v_place, .int v_sign, .int v_number, .int v_fault, .int v_wrongAt, .long v_word, .ref h_far, .ref h_from, .ref h_real, .ref h_other, .ref h_kept, .ref h_set, .ref h_w, .int v_marks, .int v_notes, .ref h_book, .ref h_noteSort, .ref h_whose, .ref h_what, .ref h_noteIs, .ref h_fitting, .ref h_dawn, .ref h_likes, .ref h_walked, .ref h_came])), (h_dawn, aI E 3840 v_dawn)]
def BX12_isAlike_2 (p0 : Int32) (p1 : Int32) (v_dawn : Nat → Int32) (rec2 : (Int32) → Option Int32) : (Int32) → Option Int32 := un1 fun (x2_3 : Int32) => if 30 ≤ x2_3 then (some 1) else (gd ((p0 * 30) + x2_3) 3840 (gd ((p1 * 30) + x2_3) 3840 (if (v_dawn ((p0 * 30) + x2_3).toNatClampNeg) = (v_dawn ((p1 * 30) + x2_3).toNatClampNeg) then (rec2 (x2_3 + 1)) else (some 0))))
def fX12_isAlike (N : Nat) (p0 : Int32) (p1 : Int32) (v_dawn : Nat → Int32) : Option Int32 := lp (BX12_isAlike_2 p0 p1 v_dawn) N 0
set_option maxHeartbeats 4000000 in
set_option maxRecDepth 100000 in
theorem ctX12_isAlike (l : Launch) (E : EN) (h h_tape h_far h_from h_real h_other h_kept h_set h_w h_book h_noteSort h_whose h_what h_noteIs h_fitting h_dawn h_likes h_walked h_came : Nat) (v_thrown : Int32) (v_trouble : Int32) (v_where : Int32) (v_inn : Option Nat) (v_read : Option Nat) (v_taped : Int32) (v_size : Int32) (v_at : Int32) (v_sort : Int32) (v_place : Int32) (v_sign : Int32) (v_number : Int32) (v_fault : Int32) (v_wrongAt : Int32) (v_word : Int64) (v_marks : Int32) (v_notes : Int32) (v_dawn : Nat → Int32) (N : Nat) (p0 : Int32) (p1 : Int32) (z : Int32) (hf : fX12_isAlike N p0 p1 v_dawn = some z) : CTi l E yX12_isAlike cX12_isAlike 4 .boolean 0 0 [.ref h, .int p0, .int p1] (wX12_isAlike E h h_tape h_far h_from h_real h_other h_kept h_set h_w h_book h_noteSort h_whose h_what h_noteIs h_fitting h_dawn h_likes h_walked h_came v_thrown v_trouble v_where v_inn v_read v_taped v_size v_at v_sort v_place v_sign v_number v_fault v_wrongAt v_word v_marks v_notes v_dawn) (z) (wX12_isAlike E h h_tape h_far h_from h_real h_other h_kept h_set h_w h_book h_noteSort h_whose h_what h_noteIs h_fitting h_dawn h_likes h_walked h_came v_thrown v_trouble v_where v_inn v_read v_taped v_size v_at v_sort v_place v_sign v_number v_fault v_wrongAt v_word v_marks v_notes v_dawn) := by
  intro sz
  refine ct_body (by decide) (Nat.le_of_ble_eq_true rfl) ?_
  intro p e s m args below meth c A ls hAe C hr hin hP hD hS hl
  have C : CX p s m args meth c cX12_isAlike RX12 4 E A := C
  have hl : lv_has ls 4 [(0, .ref h), (1, .int p0), (2, .int p1)] := hl
  have hx := C.1
  have hb := C.2.1
  rw [hAe]
  clear hAe
  obtain ⟨Q, hQ⟩ : ∃ Q, Q = MQ below (Qi E A (z) (wX12_isAlike E h h_tape h_far h_from h_real h_other h_kept h_set h_w h_book h_noteSort h_whose h_what h_noteIs h_fitting h_dawn h_likes h_walked h_came v_thrown v_trouble v_where v_inn v_read v_taped v_size v_at v_sort v_place v_sign v_number v_fault v_wrongAt v_word v_marks v_notes v_dawn)) args s 0 0 A := ⟨_, rfl⟩
  rw [← hQ]
  unfold fX12_isAlike at hf
  refine lv_iconst (pc := 0) (v := 0) hx hb dX12_isAlike_0 (by decide) ?_
  refine lv_istore_n (pc := 1) (lv' := [(3, .int 0), (0, .ref h), (1, .int p0), (2, .int p1)]) hx hb dX12_isAlike_1 rfl hl (by decide) rfl (fun ls hl => ?_)
  have key2 : ∀ (n : Nat) (x2_3 : Int32) , lp (BX12_isAlike_2 p0 p1 v_dawn) n x2_3 = some z → AT p l e (rmOf 0 0) s m args below meth c E A Q 0 0 4 [(0, .ref h), (1, .int p0), (2, .int p1), (3, .int x2_3)] (wX12_isAlike E h h_tape h_far h_from h_real h_other h_kept h_set h_w h_book h_noteSort h_whose h_what h_noteIs h_fitting h_dawn h_likes h_walked h_came v_thrown v_trouble v_where v_inn v_read v_taped v_size v_at v_sort v_place v_sign v_number v_fault v_wrongAt v_word v_marks v_notes v_dawn) 2 [] := by
    intro n
    induction n with
    | zero => intro x2_3 hf; exact (lp_0 hf).elim
    | succ n ih2 =>
      intro x2_3 hf H locs ls hl hP hD hS
      replace hf := lp_s hf
      generalize lp (BX12_isAlike_2 p0 p1 v_dawn) n = rec2 at ih2 hf
      unfold BX12_isAlike_2 at hf
      replace hf := un1_s hf
      refine lv_iload_n (pc := 2) hx hb dX12_isAlike_2 rfl (lv_at hl 3 rfl) ?_
      refine lv_bipush (pc := 3) (v := 30) hx hb dX12_isAlike_3 (by decide) ?_
      refine lv_icmp_ge (pc := 5) (tgt := 41) hx hb dX12_isAlike_5 (by decide) (fun c_5 => ?_) (fun c_5 => ?_)
      · replace hf := it_t c_5 hf
        refine lv_iconst (pc := 41) (v := 1) hx hb dX12_isAlike_41 (by decide) ?_
        cases hf
        rw [hQ]
        exact r_zret C hr hP hD hS (Or.inr rfl) rfl dX12_isAlike_42
      · replace hf := it_f c_5 hf
        refine lv_aload_n (pc := 8) hx hb dX12_isAlike_8 rfl (lv_at hl 0 rfl) ?_
        refine r_get (pc := 9) C hP 0 rfl fl_X12_58 rfl dX12_isAlike_9 ?_
        refine lv_iload_n (pc := 12) hx hb dX12_isAlike_12 rfl (lv_at hl 1 rfl) ?_
        refine lv_bipush (pc := 13) (v := 30) hx hb dX12_isAlike_13 (by decide) ?_
        refine lv_imul (pc := 15) hx hb dX12_isAlike_15 ?_
        refine lv_iload_n (pc := 16) hx hb dX12_isAlike_16 rfl (lv_at hl 3 rfl) ?_
        refine lv_iadd (pc := 17) hx hb dX12_isAlike_17 ?_
        obtain ⟨hi_18, hf⟩ := gd_s hf
        refine r_iald (pc := 18) C hP 1 rfl hi_18 dX12_isAlike_18 ?_
        refine lv_aload_n (pc := 19) hx hb dX12_isAlike_19 rfl (lv_at hl 0 rfl) ?_
        refine r_get (pc := 20) C hP 0 rfl fl_X12_58 rfl dX12_isAlike_20 ?_
        refine lv_iload_n (pc := 23) hx hb dX12_isAlike_23 rfl (lv_at hl 2 rfl) ?_
        refine lv_bipush (pc := 24) (v := 30) hx hb dX12_isAlike_24 (by decide) ?_
        refine lv_imul (pc := 26) hx hb dX12_isAlike_26 ?_
        refine lv_iload_n (pc := 27) hx hb dX12_isAlike_27 rfl (lv_at hl 3 rfl) ?_
        refine lv_iadd (pc := 28) hx hb dX12_isAlike_28 ?_
        obtain ⟨hi_29, hf⟩ := gd_s hf
        refine r_iald (pc := 29) C hP 1 rfl hi_29 dX12_isAlike_29 ?_
        refine lv_icmp_eq (pc := 30) (tgt := 35) hx hb dX12_isAlike_30 (by decide) (fun c_30 => ?_) (fun c_30 => ?_)
        · replace hf := it_t c_30 hf
          refine lv_iinc (pc := 35) (v := x2_3 + 1) (lv' := [(3, .int (x2_3 + 1)), (0, .ref h), (1, .int p0), (2, .int p1)]) hx hb dX12_isAlike_35 hl (k := 3) rfl rfl (by decide) rfl (fun ls hl => ?_)
          refine lv_goto (pc := 38) (tgt := 2) hx hb dX12_isAlike_38 (by decide) ?_
          exact ih2 (x2_3 + 1) hf _ _ _ (lv_sub hl [1, 2, 3, 0] rfl) hP hD hS
        · replace hf := it_f c_30 hf
          refine lv_iconst (pc := 33) (v := 0) hx hb dX12_isAlike_33 (by decide) ?_
          cases hf
          rw [hQ]
          exact r_zret C hr hP hD hS (Or.inl rfl) rfl dX12_isAlike_34
  exact key2 _ 0 hf _ _ _ (lv_sub hl [1, 2, 3, 0] rfl) hP hD hS
def wX12_mostAlike (E : EN) (h h_inn h_tape h_far h_from h_real h_other h_kept h_set h_book h_noteSort h_whose h_what h_noteIs h_fitting h_dawn h_likes h_walked h_came h_inn_creak h_inn_doorA h_inn_doorB h_inn_how h_inn_lies h_inn_isCold h_inn_falls h_inn_isFull h_inn_isTold h_inn_act h_inn_what h_inn_then h_inn_met h_inn_bed h_inn_dream h_inn_listens h_inn_name h_inn_nameSort h_inn_nameNumber : Nat) (v_thrown : Int32) (v_trouble : Int32) (v_where : Int32) (v_read : Option Nat) (v_taped : Int32) (v_size : Int32) (v_at : Int32) (v_sort : Int32) (v_place : Int32) (v_sign : Int32) (v_number : Int32) (v_fault : Int32) (v_wrongAt : Int32) (v_word : Int64) (v_marks : Int32) (v_notes : Int32) (v_dawn : Nat → Int32) (v_fitting : Nat → Int32) (v_inn_minutes : Int32) (v_inn_rooms : Int32) (v_inn_doors : Int32) (v_inn_things : Int32) (v_inn_dreams : Int32) (v_inn_sleepers : Int32) (v_inn_listeners : Int32) (v_inn_names : Int32) (v_other : Nat → Int32) (v_inn_how : Nat → Int32) (v_inn_lies : Nat → Int32) (v_inn_isFull : Nat → Int32) (v_inn_bed : Nat → Int32) (v_inn_isTold : Nat → Int32) (v_inn_act : Nat → Int32) (v_inn_then : Nat → Int32) (v_inn_what : Nat → Int32) (v_inn_doorA : Nat → Int32) (v_inn_doorB : Nat → Int32) (v_from : Nat → Int32) (v_inn_falls : Nat → Int32) (v_inn_creak : Nat → Int32) (v_inn_listens : Nat → Int32) (v_far : Nat → Int32) (v_inn_isCold : Nat → Int32) (v_inn_met : Nat → Int32) : va_W := [(h, .inr (11, [.int v_thrown, .int v_trouble, .int v_where, .ref h_inn, va_rf v_read, .ref h_tape, .int v_taped, .int v_size, .int v_at, .int v_sort, .int v_place, .int v_sign, .int v_number, .int v_fault, .int v_wrongAt, .long v_word, .ref h_far, .ref h_from, .ref h_real, .ref h_other, .ref h_kept, .ref h_set, .ref h_real, .int v_marks, .int v_notes, .ref h_book, .ref h_noteSort, .ref h_whose, .ref h_what, .ref h_noteIs, .ref h_fitting, .ref h_dawn, .ref h_likes, .ref h_walked, .ref h_came])), (h_dawn, aI E 3840 v_dawn), (h_fitting, aI E 64 v_fitting), (h_inn, .inr (10, [.int v_inn_minutes, .int v_inn_rooms, .int v_inn_doors, .int v_inn_things, .int v_inn_dreams, .int v_inn_sleepers, .int v_inn_listeners, .int v_inn_names, .ref h_inn_creak, .ref h_inn_doorA, .ref h_inn_doorB, .ref h_inn_how, .ref h_inn_lies, .ref h_inn_isCold, .ref h_inn_falls, .ref h_inn_isFull, .ref h_inn_isTold, .ref h_inn_act, .ref h_inn_what, .ref h_inn_then, .ref h_inn_met, .ref h_inn_bed, .ref h_inn_dream, .ref h_inn_listens, .ref h_inn_name, .ref h_inn_nameSort, .ref h_inn_nameNumber])), (h_other, aI E 51 v_other), (h_inn_how, aI E 10 v_inn_how), (h_inn_lies, aI E 4 v_inn_lies), (h_inn_isFull, aZ E 4 v_inn_isFull), (h_inn_bed, aI E 3 v_inn_bed), (h_inn_isTold, aZ E 16 v_inn_isTold), (h_inn_act, aI E 16 v_inn_act), (h_inn_then, aI E 16 v_inn_then), (h_inn_what, aI E 16 v_inn_what), (h_inn_doorA, aI E 10 v_inn_doorA), (h_inn_doorB, aI E 10 v_inn_doorB), (h_from, aI E 8 v_from), (h_inn_falls, aZ E 10 v_inn_falls), (h_inn_creak, aI E 8 v_inn_creak), (h_inn_listens, aI E 3 v_inn_listens), (h_far, aI E 64 v_far), (h_inn_isCold, aZ E 8 v_inn_isCold), (h_inn_met, aI E 16 v_inn_met)]
def BX12_mostAlike_83 (p0 : Int32) (N : Nat) (x71_5 : Int32) (x57_dawn : Nat → Int32) (K139 : (Int32) → Option (Int32 × (Nat → Int32) × (Nat → Int32) × (Nat → Int32))) (rec83 : (Int32 × Int32) → Option (Int32 × (Nat → Int32) × (Nat → Int32) × (Nat → Int32))) : (Int32 × Int32) → Option (Int32 × (Nat → Int32) × (Nat → Int32) × (Nat → Int32)) := un2 fun (x83_6 : Int32) (x83_7 : Int32) => if p0 ≤ x83_7 then (K139 x83_6) else ((fX12_isAlike N (2 * x71_5) (2 * x83_7) x57_dawn).bind (un1 fun (r_100 : Int32) => jn (un2 fun (x130_s0 : Int32) (x130_s1 : Int32) => rec83 (x130_s0 + x130_s1, x83_7 + 1)) (fun j130 => jn (un1 fun (x129_s0 : Int32) => j130 (x129_s0, 0)) (fun j129 => if r_100 = 0 then (j129 x83_6) else ((fX12_isAlike N ((2 * x71_5) + 1) ((2 * x83_7) + 1) x57_dawn).bind (un1 fun (r_119 : Int32) => if r_119 = 0 then (j129 x83_6) else (j130 (x83_6, 1))))))))
def BX12_mostAlike_71 (p0 : Int32) (x57_dawn : Nat → Int32) (x57_other : Nat → Int32) (x57_from : Nat → Int32) (N : Nat) (rec71 : (Int32 × Int32) → Option (Int32 × (Nat → Int32) × (Nat → Int32) × (Nat → Int32))) : (Int32 × Int32) → Option (Int32 × (Nat → Int32) × (Nat → Int32) × (Nat → Int32)) := un2 fun (x71_4 : Int32) (x71_5 : Int32) => if p0 ≤ x71_5 then (some (x71_4, x57_dawn, x57_other, x57_from)) else (lp (BX12_mostAlike_83 p0 N x71_5 x57_dawn (un1 fun (x139_6 : Int32) => jn (un1 fun (x153_s0 : Int32) => rec71 (x153_s0, x71_5 + 1)) (fun j153 => if x139_6 ≤ x71_4 then (j153 x71_4) else (j153 x139_6)))) N (0, 0))
def BX12_mostAlike_11 (p0 : Int32) (N : Nat) (v_fitting : Nat → Int32) (p1 : Int32) (v_inn_minutes : Int32) (v_inn_rooms : Int32) (v_inn_doors : Int32) (v_inn_things : Int32) (v_inn_dreams : Int32) (v_inn_sleepers : Int32) (v_inn_listeners : Int32) (v_inn_how : Nat → Int32) (v_inn_lies : Nat → Int32) (v_inn_isFull : Nat → Int32) (v_inn_bed : Nat → Int32) (v_inn_isTold : Nat → Int32) (v_inn_act : Nat → Int32) (v_inn_then : Nat → Int32) (v_inn_what : Nat → Int32) (v_inn_doorA : Nat → Int32) (v_inn_doorB : Nat → Int32) (v_inn_falls : Nat → Int32) (v_inn_creak : Nat → Int32) (v_inn_listens : Nat → Int32) (v_far : Nat → Int32) (v_inn_isCold : Nat → Int32) (v_inn_met : Nat → Int32) (p2 : Int32) (K57 : ((Nat → Int32) × (Nat → Int32) × (Nat → Int32)) → Option (Int32 × (Nat → Int32) × (Nat → Int32) × (Nat → Int32))) (rec11 : (Int32 × (Nat → Int32) × (Nat → Int32) × (Nat → Int32)) → Option (Int32 × (Nat → Int32) × (Nat → Int32) × (Nat → Int32))) : (Int32 × (Nat → Int32) × (Nat → Int32) × (Nat → Int32)) → Option (Int32 × (Nat → Int32) × (Nat → Int32) × (Nat → Int32)) := un4 fun (x11_4 : Int32) (x11_dawn : Nat → Int32) (x11_other : Nat → Int32) (x11_from : Nat → Int32) => if p0 ≤ x11_4 then (K57 (x11_dawn, x11_other, x11_from)) else (gd x11_4 64 ((fX12_dawns N (v_fitting x11_4.toNatClampNeg) p1 (2 * x11_4) v_inn_minutes v_inn_rooms v_inn_doors v_inn_things v_inn_dreams v_inn_sleepers v_inn_listeners x11_other v_inn_how v_inn_lies v_inn_isFull v_inn_bed v_inn_isTold v_inn_act v_inn_then v_inn_what v_inn_doorA v_inn_doorB x11_from v_inn_falls v_inn_creak v_inn_listens v_far v_inn_isCold v_inn_met x11_dawn).bind (un3 fun (v_other_30 : Nat → Int32) (v_from_30 : Nat → Int32) (v_dawn_30 : Nat → Int32) => gd x11_4 64 ((fX12_dawns N (v_fitting x11_4.toNatClampNeg) p2 ((2 * x11_4) + 1) v_inn_minutes v_inn_rooms v_inn_doors v_inn_things v_inn_dreams v_inn_sleepers v_inn_listeners v_other_30 v_inn_how v_inn_lies v_inn_isFull v_inn_bed v_inn_isTold v_inn_act v_inn_then v_inn_what v_inn_doorA v_inn_doorB v_from_30 v_inn_falls v_inn_creak v_inn_listens v_far v_inn_isCold v_inn_met v_dawn_30).bind (un3 fun (v_other_48 : Nat → Int32) (v_from_48 : Nat → Int32) (v_dawn_48 : Nat → Int32) => rec11 (x11_4 + 1, v_dawn_48, v_other_48, v_from_48))))))
def fX12_mostAlike (N : Nat) (p0 : Int32) (p1 : Int32) (p2 : Int32) (v_dawn : Nat → Int32) (v_fitting : Nat → Int32) (v_inn_minutes : Int32) (v_inn_rooms : Int32) (v_inn_doors : Int32) (v_inn_things : Int32) (v_inn_dreams : Int32) (v_inn_sleepers : Int32) (v_inn_listeners : Int32) (v_other : Nat → Int32) (v_inn_how : Nat → Int32) (v_inn_lies : Nat → Int32) (v_inn_isFull : Nat → Int32) (v_inn_bed : Nat → Int32) (v_inn_isTold : Nat → Int32) (v_inn_act : Nat → Int32) (v_inn_then : Nat → Int32) (v_inn_what : Nat → Int32) (v_inn_doorA : Nat → Int32) (v_inn_doorB : Nat → Int32) (v_from : Nat → Int32) (v_inn_falls : Nat → Int32) (v_inn_creak : Nat → Int32) (v_inn_listens : Nat → Int32) (v_far : Nat → Int32) (v_inn_isCold : Nat → Int32) (v_inn_met : Nat → Int32) : Option (Int32 × (Nat → Int32) × (Nat → Int32) × (Nat → Int32)) := lp (BX12_mostAlike_11 p0 N v_fitting p1 v_inn_minutes v_inn_rooms v_inn_doors v_inn_things v_inn_dreams v_inn_sleepers v_inn_listeners v_inn_how v_inn_lies v_inn_isFull v_inn_bed v_inn_isTold v_inn_act v_inn_then v_inn_what v_inn_doorA v_inn_doorB v_inn_falls v_inn_creak v_inn_listens v_far v_inn_isCold v_inn_met p2 (un3 fun (x57_dawn : Nat → Int32) (x57_other : Nat → Int32) (x57_from : Nat → Int32) => lp (BX12_mostAlike_71 p0 x57_dawn x57_other x57_from N) N (0, 0))) N (0, v_dawn, v_other, v_from)
set_option maxHeartbeats 4000000 in
set_option maxRecDepth 100000 in
theorem ctX12_mostAlike (l : Launch) (E : EN) (h h_inn h_tape h_far h_from h_real h_other h_kept h_set h_book h_noteSort h_whose h_what h_noteIs h_fitting h_dawn h_likes h_walked h_came h_inn_creak h_inn_doorA h_inn_doorB h_inn_how h_inn_lies h_inn_isCold h_inn_falls h_inn_isFull h_inn_isTold h_inn_act h_inn_what h_inn_then h_inn_met h_inn_bed h_inn_dream h_inn_listens h_inn_name h_inn_nameSort h_inn_nameNumber : Nat) (v_thrown : Int32) (v_trouble : Int32) (v_where : Int32) (v_read : Option Nat) (v_taped : Int32) (v_size : Int32) (v_at : Int32) (v_sort : Int32) (v_place : Int32) (v_sign : Int32) (v_number : Int32) (v_fault : Int32) (v_wrongAt : Int32) (v_word : Int64) (v_marks : Int32) (v_notes : Int32) (v_dawn : Nat → Int32) (v_fitting : Nat → Int32) (v_inn_minutes : Int32) (v_inn_rooms : Int32) (v_inn_doors : Int32) (v_inn_things : Int32) (v_inn_dreams : Int32) (v_inn_sleepers : Int32) (v_inn_listeners : Int32) (v_inn_names : Int32) (v_other : Nat → Int32) (v_inn_how : Nat → Int32) (v_inn_lies : Nat → Int32) (v_inn_isFull : Nat → Int32) (v_inn_bed : Nat → Int32) (v_inn_isTold : Nat → Int32) (v_inn_act : Nat → Int32) (v_inn_then : Nat → Int32) (v_inn_what : Nat → Int32) (v_inn_doorA : Nat → Int32) (v_inn_doorB : Nat → Int32) (v_from : Nat → Int32) (v_inn_falls : Nat → Int32) (v_inn_creak : Nat → Int32) (v_inn_listens : Nat → Int32) (v_far : Nat → Int32) (v_inn_isCold : Nat → Int32) (v_inn_met : Nat → Int32) (N : Nat) (p0 : Int32) (p1 : Int32) (p2 : Int32) (z : Int32 × (Nat → Int32) × (Nat → Int32) × (Nat → Int32)) (hf : fX12_mostAlike N p0 p1 p2 v_dawn v_fitting v_inn_minutes v_inn_rooms v_inn_doors v_inn_things v_inn_dreams v_inn_sleepers v_inn_listeners v_other v_inn_how v_inn_lies v_inn_isFull v_inn_bed v_inn_isTold v_inn_act v_inn_then v_inn_what v_inn_doorA v_inn_doorB v_from v_inn_falls v_inn_creak v_inn_listens v_far v_inn_isCold v_inn_met = some z) : CTi l E yX12_mostAlike cX12_mostAlike 8 .int 8 185 [.ref h, .int p0, .int p1, .int p2] (wX12_mostAlike E h h_inn h_tape h_far h_from h_real h_other h_kept h_set h_book h_noteSort h_whose h_what h_noteIs h_fitting h_dawn h_likes h_walked h_came h_inn_creak h_inn_doorA h_inn_doorB h_inn_how h_inn_lies h_inn_isCold h_inn_falls h_inn_isFull h_inn_isTold h_inn_act h_inn_what h_inn_then h_inn_met h_inn_bed h_inn_dream h_inn_listens h_inn_name h_inn_nameSort h_inn_nameNumber v_thrown v_trouble v_where v_read v_taped v_size v_at v_sort v_place v_sign v_number v_fault v_wrongAt v_word v_marks v_notes v_dawn v_fitting v_inn_minutes v_inn_rooms v_inn_doors v_inn_things v_inn_dreams v_inn_sleepers v_inn_listeners v_inn_names v_other v_inn_how v_inn_lies v_inn_isFull v_inn_bed v_inn_isTold v_inn_act v_inn_then v_inn_what v_inn_doorA v_inn_doorB v_from v_inn_falls v_inn_creak v_inn_listens v_far v_inn_isCold v_inn_met) (z.1) (wX12_mostAlike E h h_inn h_tape h_far h_from h_real h_other h_kept h_set h_book h_noteSort h_whose h_what h_noteIs h_fitting h_dawn h_likes h_walked h_came h_inn_creak h_inn_doorA h_inn_doorB h_inn_how h_inn_lies h_inn_isCold h_inn_falls h_inn_isFull h_inn_isTold h_inn_act h_inn_what h_inn_then h_inn_met h_inn_bed h_inn_dream h_inn_listens h_inn_name h_inn_nameSort h_inn_nameNumber v_thrown v_trouble v_where v_read v_taped v_size v_at v_sort v_place v_sign v_number v_fault v_wrongAt v_word v_marks v_notes z.2.1 v_fitting v_inn_minutes v_inn_rooms v_inn_doors v_inn_things v_inn_dreams v_inn_sleepers v_inn_listeners v_inn_names z.2.2.1 v_inn_how v_inn_lies v_inn_isFull v_inn_bed v_inn_isTold v_inn_act v_inn_then v_inn_what v_inn_doorA v_inn_doorB z.2.2.2 v_inn_falls v_inn_creak v_inn_listens v_far v_inn_isCold v_inn_met) := by
  intro sz
  refine ct_body (by decide) (Nat.le_of_ble_eq_true rfl) ?_
  intro p e s m args below meth c A ls hAe C hr hin hP hD hS hl
  have C : CX p s m args meth c cX12_mostAlike RX12 8 E A := C
  have hl : lv_has ls 8 [(0, .ref h), (1, .int p0), (2, .int p1), (3, .int p2)] := hl
  have hx := C.1
  have hb := C.2.1
  rw [hAe]
  clear hAe
  obtain ⟨Q, hQ⟩ : ∃ Q, Q = MQ below (Qi E A (z.1) (wX12_mostAlike E h h_inn h_tape h_far h_from h_real h_other h_kept h_set h_book h_noteSort h_whose h_what h_noteIs h_fitting h_dawn h_likes h_walked h_came h_inn_creak h_inn_doorA h_inn_doorB h_inn_how h_inn_lies h_inn_isCold h_inn_falls h_inn_isFull h_inn_isTold h_inn_act h_inn_what h_inn_then h_inn_met h_inn_bed h_inn_dream h_inn_listens h_inn_name h_inn_nameSort h_inn_nameNumber v_thrown v_trouble v_where v_read v_taped v_size v_at v_sort v_place v_sign v_number v_fault v_wrongAt v_word v_marks v_notes z.2.1 v_fitting v_inn_minutes v_inn_rooms v_inn_doors v_inn_things v_inn_dreams v_inn_sleepers v_inn_listeners v_inn_names z.2.2.1 v_inn_how v_inn_lies v_inn_isFull v_inn_bed v_inn_isTold v_inn_act v_inn_then v_inn_what v_inn_doorA v_inn_doorB z.2.2.2 v_inn_falls v_inn_creak v_inn_listens v_far v_inn_isCold v_inn_met)) args s 0 0 A := ⟨_, rfl⟩
  rw [← hQ]
  unfold fX12_mostAlike at hf
  refine lv_aload_n (pc := 0) hx hb dX12_mostAlike_0 rfl (lv_at hl 0 rfl) ?_
  refine lv_aload_n (pc := 1) hx hb dX12_mostAlike_1 rfl (lv_at hl 0 rfl) ?_
  refine r_get (pc := 2) C hP 0 rfl fl_X12_27 rfl dX12_mostAlike_2 ?_
  refine r_put (pc := 5) (ws' := [(h, .inr (11, [.int v_thrown, .int v_trouble, .int v_where, .ref h_inn, va_rf v_read, .ref h_tape, .int v_taped, .int v_size, .int v_at, .int v_sort, .int v_place, .int v_sign, .int v_number, .int v_fault, .int v_wrongAt, .long v_word, .ref h_far, .ref h_from, .ref h_real, .ref h_other, .ref h_kept, .ref h_set, .ref h_other, .int v_marks, .int v_notes, .ref h_book, .ref h_noteSort, .ref h_whose, .ref h_what, .ref h_noteIs, .ref h_fitting, .ref h_dawn, .ref h_likes, .ref h_walked, .ref h_came])), (h_dawn, aI E 3840 v_dawn), (h_fitting, aI E 64 v_fitting), (h_inn, .inr (10, [.int v_inn_minutes, .int v_inn_rooms, .int v_inn_doors, .int v_inn_things, .int v_inn_dreams, .int v_inn_sleepers, .int v_inn_listeners, .int v_inn_names, .ref h_inn_creak, .ref h_inn_doorA, .ref h_inn_doorB, .ref h_inn_how, .ref h_inn_lies, .ref h_inn_isCold, .ref h_inn_falls, .ref h_inn_isFull, .ref h_inn_isTold, .ref h_inn_act, .ref h_inn_what, .ref h_inn_then, .ref h_inn_met, .ref h_inn_bed, .ref h_inn_dream, .ref h_inn_listens, .ref h_inn_name, .ref h_inn_nameSort, .ref h_inn_nameNumber])), (h_other, aI E 51 v_other), (h_inn_how, aI E 10 v_inn_how), (h_inn_lies, aI E 4 v_inn_lies), (h_inn_isFull, aZ E 4 v_inn_isFull), (h_inn_bed, aI E 3 v_inn_bed), (h_inn_isTold, aZ E 16 v_inn_isTold), (h_inn_act, aI E 16 v_inn_act), (h_inn_then, aI E 16 v_inn_then), (h_inn_what, aI E 16 v_inn_what), (h_inn_doorA, aI E 10 v_inn_doorA), (h_inn_doorB, aI E 10 v_inn_doorB), (h_from, aI E 8 v_from), (h_inn_falls, aZ E 10 v_inn_falls), (h_inn_creak, aI E 8 v_inn_creak), (h_inn_listens, aI E 3 v_inn_listens), (h_far, aI E 64 v_far), (h_inn_isCold, aZ E 8 v_inn_isCold), (h_inn_met, aI E 16 v_inn_met)]) C hP hD hS 0 rfl fl_X12_36 rfl rfl (Nat.le_of_ble_eq_true rfl) rfl dX12_mostAlike_5 ?_
  clear hP hD hS; intro H locs hP hD hS
  refine lv_iconst (pc := 8) (v := 0) hx hb dX12_mostAlike_8 (by decide) ?_
  refine lv_istore (pc := 9) (lv' := [(4, .int 0), (0, .ref h), (1, .int p0), (2, .int p1), (3, .int p2)]) hx hb dX12_mostAlike_9 hl (by decide) rfl (fun ls hl => ?_)
  refine lpK hf (fun K57 eK57 hf => ?_)
  have hK57 : ∀ (x57_dawn : Nat → Int32) (x57_other : Nat → Int32) (x57_from : Nat → Int32) , K57 (x57_dawn, x57_other, x57_from) = some z → AT p l e (rmOf 8 185) s m args below meth c E A Q 0 0 8 [(0, .ref h), (1, .int p0)] [(h, .inr (11, [.int v_thrown, .int v_trouble, .int v_where, .ref h_inn, va_rf v_read, .ref h_tape, .int v_taped, .int v_size, .int v_at, .int v_sort, .int v_place, .int v_sign, .int v_number, .int v_fault, .int v_wrongAt, .long v_word, .ref h_far, .ref h_from, .ref h_real, .ref h_other, .ref h_kept, .ref h_set, .ref h_other, .int v_marks, .int v_notes, .ref h_book, .ref h_noteSort, .ref h_whose, .ref h_what, .ref h_noteIs, .ref h_fitting, .ref h_dawn, .ref h_likes, .ref h_walked, .ref h_came])), (h_dawn, aI E 3840 x57_dawn), (h_fitting, aI E 64 v_fitting), (h_inn, .inr (10, [.int v_inn_minutes, .int v_inn_rooms, .int v_inn_doors, .int v_inn_things, .int v_inn_dreams, .int v_inn_sleepers, .int v_inn_listeners, .int v_inn_names, .ref h_inn_creak, .ref h_inn_doorA, .ref h_inn_doorB, .ref h_inn_how, .ref h_inn_lies, .ref h_inn_isCold, .ref h_inn_falls, .ref h_inn_isFull, .ref h_inn_isTold, .ref h_inn_act, .ref h_inn_what, .ref h_inn_then, .ref h_inn_met, .ref h_inn_bed, .ref h_inn_dream, .ref h_inn_listens, .ref h_inn_name, .ref h_inn_nameSort, .ref h_inn_nameNumber])), (h_other, aI E 51 x57_other), (h_inn_how, aI E 10 v_inn_how), (h_inn_lies, aI E 4 v_inn_lies), (h_inn_isFull, aZ E 4 v_inn_isFull), (h_inn_bed, aI E 3 v_inn_bed), (h_inn_isTold, aZ E 16 v_inn_isTold), (h_inn_act, aI E 16 v_inn_act), (h_inn_then, aI E 16 v_inn_then), (h_inn_what, aI E 16 v_inn_what), (h_inn_doorA, aI E 10 v_inn_doorA), (h_inn_doorB, aI E 10 v_inn_doorB), (h_from, aI E 8 x57_from), (h_inn_falls, aZ E 10 v_inn_falls), (h_inn_creak, aI E 8 v_inn_creak), (h_inn_listens, aI E 3 v_inn_listens), (h_far, aI E 64 v_far), (h_inn_isCold, aZ E 8 v_inn_isCold), (h_inn_met, aI E 16 v_inn_met)] 57 [] := by
    intro x57_dawn x57_other x57_from hf H locs ls hl hP hD hS
    rw [eK57] at hf
    replace hf := un3_s hf
    refine lv_aload_n (pc := 57) hx hb dX12_mostAlike_57 rfl (lv_at hl 0 rfl) ?_
    refine lv_aload_n (pc := 58) hx hb dX12_mostAlike_58 rfl (lv_at hl 0 rfl) ?_
    refine r_get (pc := 59) C hP 0 rfl fl_X12_24 rfl dX12_mostAlike_59 ?_
    refine r_put (pc := 62) (ws' := (wX12_mostAlike E h h_inn h_tape h_far h_from h_real h_other h_kept h_set h_book h_noteSort h_whose h_what h_noteIs h_fitting h_dawn h_likes h_walked h_came h_inn_creak h_inn_doorA h_inn_doorB h_inn_how h_inn_lies h_inn_isCold h_inn_falls h_inn_isFull h_inn_isTold h_inn_act h_inn_what h_inn_then h_inn_met h_inn_bed h_inn_dream h_inn_listens h_inn_name h_inn_nameSort h_inn_nameNumber v_thrown v_trouble v_where v_read v_taped v_size v_at v_sort v_place v_sign v_number v_fault v_wrongAt v_word v_marks v_notes x57_dawn v_fitting v_inn_minutes v_inn_rooms v_inn_doors v_inn_things v_inn_dreams v_inn_sleepers v_inn_listeners v_inn_names x57_other v_inn_how v_inn_lies v_inn_isFull v_inn_bed v_inn_isTold v_inn_act v_inn_then v_inn_what v_inn_doorA v_inn_doorB x57_from v_inn_falls v_inn_creak v_inn_listens v_far v_inn_isCold v_inn_met)) C hP hD hS 0 rfl fl_X12_36 rfl rfl (Nat.le_of_ble_eq_true rfl) rfl dX12_mostAlike_62 ?_
    clear hP hD hS; intro H locs hP hD hS
    refine lv_iconst (pc := 65) (v := 0) hx hb dX12_mostAlike_65 (by decide) ?_
    refine lv_istore (pc := 66) (lv' := [(4, .int 0), (0, .ref h), (1, .int p0)]) hx hb dX12_mostAlike_66 hl (by decide) rfl (fun ls hl => ?_)
    refine lv_iconst (pc := 68) (v := 0) hx hb dX12_mostAlike_68 (by decide) ?_
    refine lv_istore (pc := 69) (lv' := [(5, .int 0), (4, .int 0), (0, .ref h), (1, .int p0)]) hx hb dX12_mostAlike_69 hl (by decide) rfl (fun ls hl => ?_)
    have key71 : ∀ (n : Nat) (x71_4 : Int32) (x71_5 : Int32) , lp (BX12_mostAlike_71 p0 x57_dawn x57_other x57_from N) n (x71_4, x71_5) = some z → AT p l e (rmOf 8 185) s m args below meth c E A Q 0 0 8 [(0, .ref h), (1, .int p0), (4, .int x71_4), (5, .int x71_5)] (wX12_mostAlike E h h_inn h_tape h_far h_from h_real h_other h_kept h_set h_book h_noteSort h_whose h_what h_noteIs h_fitting h_dawn h_likes h_walked h_came h_inn_creak h_inn_doorA h_inn_doorB h_inn_how h_inn_lies h_inn_isCold h_inn_falls h_inn_isFull h_inn_isTold h_inn_act h_inn_what h_inn_then h_inn_met h_inn_bed h_inn_dream h_inn_listens h_inn_name h_inn_nameSort h_inn_nameNumber v_thrown v_trouble v_where v_read v_taped v_size v_at v_sort v_place v_sign v_number v_fault v_wrongAt v_word v_marks v_notes x57_dawn v_fitting v_inn_minutes v_inn_rooms v_inn_doors v_inn_things v_inn_dreams v_inn_sleepers v_inn_listeners v_inn_names x57_other v_inn_how v_inn_lies v_inn_isFull v_inn_bed v_inn_isTold v_inn_act v_inn_then v_inn_what v_inn_doorA v_inn_doorB x57_from v_inn_falls v_inn_creak v_inn_listens v_far v_inn_isCold v_inn_met) 71 [] := by
      intro n
      induction n with
      | zero => intro x71_4 x71_5 hf; exact (lp_0 hf).elim
      | succ n ih71 =>
        intro x71_4 x71_5 hf H locs ls hl hP hD hS
        replace hf := lp_s hf
        generalize lp (BX12_mostAlike_71 p0 x57_dawn x57_other x57_from N) n = rec71 at ih71 hf
        unfold BX12_mostAlike_71 at hf
        replace hf := un2_s hf
        refine lv_iload (pc := 71) hx hb dX12_mostAlike_71 (lv_at hl 3 rfl) ?_
        refine lv_iload_n (pc := 73) hx hb dX12_mostAlike_73 rfl (lv_at hl 1 rfl) ?_
        refine lv_icmp_ge (pc := 74) (tgt := 161) hx hb dX12_mostAlike_74 (by decide) (fun c_74 => ?_) (fun c_74 => ?_)
        · replace hf := it_t c_74 hf
          refine lv_iload (pc := 161) hx hb dX12_mostAlike_161 (lv_at hl 2 rfl) ?_
          cases hf
          rw [hQ]
          exact r_iret C hr hP hD hS rfl dX12_mostAlike_163
        · replace hf := it_f c_74 hf
          refine lv_iconst (pc := 77) (v := 0) hx hb dX12_mostAlike_77 (by decide) ?_
          refine lv_istore (pc := 78) (lv' := [(6, .int 0), (0, .ref h), (1, .int p0), (4, .int x71_4), (5, .int x71_5)]) hx hb dX12_mostAlike_78 hl (by decide) rfl (fun ls hl => ?_)
          refine lv_iconst (pc := 80) (v := 0) hx hb dX12_mostAlike_80 (by decide) ?_
          refine lv_istore (pc := 81) (lv' := [(7, .int 0), (6, .int 0), (0, .ref h), (1, .int p0), (4, .int x71_4), (5, .int x71_5)]) hx hb dX12_mostAlike_81 hl (by decide) rfl (fun ls hl => ?_)
          refine lpK hf (fun K139 eK139 hf => ?_)
          have hK139 : ∀ (x139_6 : Int32) , K139 x139_6 = some z → AT p l e (rmOf 8 185) s m args below meth c E A Q 0 0 8 [(0, .ref h), (1, .int p0), (4, .int x71_4), (5, .int x71_5), (6, .int x139_6)] (wX12_mostAlike E h h_inn h_tape h_far h_from h_real h_other h_kept h_set h_book h_noteSort h_whose h_what h_noteIs h_fitting h_dawn h_likes h_walked h_came h_inn_creak h_inn_doorA h_inn_doorB h_inn_how h_inn_lies h_inn_isCold h_inn_falls h_inn_isFull h_inn_isTold h_inn_act h_inn_what h_inn_then h_inn_met h_inn_bed h_inn_dream h_inn_listens h_inn_name h_inn_nameSort h_inn_nameNumber v_thrown v_trouble v_where v_read v_taped v_size v_at v_sort v_place v_sign v_number v_fault v_wrongAt v_word v_marks v_notes x57_dawn v_fitting v_inn_minutes v_inn_rooms v_inn_doors v_inn_things v_inn_dreams v_inn_sleepers v_inn_listeners v_inn_names x57_other v_inn_how v_inn_lies v_inn_isFull v_inn_bed v_inn_isTold v_inn_act v_inn_then v_inn_what v_inn_doorA v_inn_doorB x57_from v_inn_falls v_inn_creak v_inn_listens v_far v_inn_isCold v_inn_met) 139 [] := by
            intro x139_6 hf H locs ls hl hP hD hS
            rw [eK139] at hf
            replace hf := un1_s hf
            refine lv_iload (pc := 139) hx hb dX12_mostAlike_139 (lv_at hl 4 rfl) ?_
            refine lv_iload (pc := 141) hx hb dX12_mostAlike_141 (lv_at hl 2 rfl) ?_
            refine jnK hf (fun j153 ej153 hf => ?_)
            have hj153 : ∀ (x153_s0 : Int32) , j153 x153_s0 = some z → AT p l e (rmOf 8 185) s m args below meth c E A Q 0 0 8 [(0, .ref h), (1, .int p0), (5, .int x71_5)] (wX12_mostAlike E h h_inn h_tape h_far h_from h_real h_other h_kept h_set h_book h_noteSort h_whose h_what h_noteIs h_fitting h_dawn h_likes h_walked h_came h_inn_creak h_inn_doorA h_inn_doorB h_inn_how h_inn_lies h_inn_isCold h_inn_falls h_inn_isFull h_inn_isTold h_inn_act h_inn_what h_inn_then h_inn_met h_inn_bed h_inn_dream h_inn_listens h_inn_name h_inn_nameSort h_inn_nameNumber v_thrown v_trouble v_where v_read v_taped v_size v_at v_sort v_place v_sign v_number v_fault v_wrongAt v_word v_marks v_notes x57_dawn v_fitting v_inn_minutes v_inn_rooms v_inn_doors v_inn_things v_inn_dreams v_inn_sleepers v_inn_listeners v_inn_names x57_other v_inn_how v_inn_lies v_inn_isFull v_inn_bed v_inn_isTold v_inn_act v_inn_then v_inn_what v_inn_doorA v_inn_doorB x57_from v_inn_falls v_inn_creak v_inn_listens v_far v_inn_isCold v_inn_met) 153 [.int x153_s0] := by
              intro x153_s0 hf H locs ls hl hP hD hS
              rw [ej153] at hf
              replace hf := un1_s hf
              refine lv_istore (pc := 153) (lv' := [(4, .int x153_s0), (0, .ref h), (1, .int p0), (5, .int x71_5)]) hx hb dX12_mostAlike_153 hl (by decide) rfl (fun ls hl => ?_)
              refine lv_iinc (pc := 155) (v := x71_5 + 1) (lv' := [(5, .int (x71_5 + 1)), (4, .int x153_s0), (0, .ref h), (1, .int p0)]) hx hb dX12_mostAlike_155 hl (k := 3) rfl rfl (by decide) rfl (fun ls hl => ?_)
              refine lv_goto (pc := 158) (tgt := 71) hx hb dX12_mostAlike_158 (by decide) ?_
              exact ih71 x153_s0 (x71_5 + 1) hf _ _ _ (lv_sub hl [2, 3, 1, 0] rfl) hP hD hS
            clear ej153
            refine lv_icmp_le (pc := 143) (tgt := 151) hx hb dX12_mostAlike_143 (by decide) (fun c_143 => ?_) (fun c_143 => ?_)
            · replace hf := it_t c_143 hf
              refine lv_iload (pc := 151) hx hb dX12_mostAlike_151 (lv_at hl 2 rfl) ?_
              exact hj153 x71_4 hf _ _ _ (lv_sub hl [0, 1, 3] rfl) hP hD hS
            · replace hf := it_f c_143 hf
              refine lv_iload (pc := 146) hx hb dX12_mostAlike_146 (lv_at hl 4 rfl) ?_
              refine lv_goto (pc := 148) (tgt := 153) hx hb dX12_mostAlike_148 (by decide) ?_
              exact hj153 x139_6 hf _ _ _ (lv_sub hl [0, 1, 3] rfl) hP hD hS
          clear eK139
          have key83 : ∀ (n : Nat) (x83_6 : Int32) (x83_7 : Int32) , lp (BX12_mostAlike_83 p0 N x71_5 x57_dawn K139) n (x83_6, x83_7) = some z → AT p l e (rmOf 8 185) s m args below meth c E A Q 0 0 8 [(0, .ref h), (1, .int p0), (4, .int x71_4), (5, .int x71_5), (6, .int x83_6), (7, .int x83_7)] (wX12_mostAlike E h h_inn h_tape h_far h_from h_real h_other h_kept h_set h_book h_noteSort h_whose h_what h_noteIs h_fitting h_dawn h_likes h_walked h_came h_inn_creak h_inn_doorA h_inn_doorB h_inn_how h_inn_lies h_inn_isCold h_inn_falls h_inn_isFull h_inn_isTold h_inn_act h_inn_what h_inn_then h_inn_met h_inn_bed h_inn_dream h_inn_listens h_inn_name h_inn_nameSort h_inn_nameNumber v_thrown v_trouble v_where v_read v_taped v_size v_at v_sort v_place v_sign v_number v_fault v_wrongAt v_word v_marks v_notes x57_dawn v_fitting v_inn_minutes v_inn_rooms v_inn_doors v_inn_things v_inn_dreams v_inn_sleepers v_inn_listeners v_inn_names x57_other v_inn_how v_inn_lies v_inn_isFull v_inn_bed v_inn_isTold v_inn_act v_inn_then v_inn_what v_inn_doorA v_inn_doorB x57_from v_inn_falls v_inn_creak v_inn_listens v_far v_inn_isCold v_inn_met) 83 [] := by
            intro n
            induction n with
            | zero => intro x83_6 x83_7 hf; exact (lp_0 hf).elim
            | succ n ih83 =>
              intro x83_6 x83_7 hf H locs ls hl hP hD hS
              replace hf := lp_s hf
              generalize lp (BX12_mostAlike_83 p0 N x71_5 x57_dawn K139) n = rec83 at ih83 hf
              unfold BX12_mostAlike_83 at hf
              replace hf := un2_s hf
              refine lv_iload (pc := 83) hx hb dX12_mostAlike_83 (lv_at hl 5 rfl) ?_
              refine lv_iload_n (pc := 85) hx hb dX12_mostAlike_85 rfl (lv_at hl 1 rfl) ?_
              refine lv_icmp_ge (pc := 86) (tgt := 139) hx hb dX12_mostAlike_86 (by decide) (fun c_86 => ?_) (fun c_86 => ?_)
              · replace hf := it_t c_86 hf
                exact hK139 x83_6 hf _ _ _ (lv_sub hl [0, 1, 2, 3, 4] rfl) hP hD hS
              · replace hf := it_f c_86 hf
                refine lv_iload (pc := 89) hx hb dX12_mostAlike_89 (lv_at hl 4 rfl) ?_
                refine lv_aload_n (pc := 91) hx hb dX12_mostAlike_91 rfl (lv_at hl 0 rfl) ?_
                refine lv_iconst (pc := 92) (v := 2) hx hb dX12_mostAlike_92 (by decide) ?_
                refine lv_iload (pc := 93) hx hb dX12_mostAlike_93 (lv_at hl 3 rfl) ?_
                refine lv_imul (pc := 95) hx hb dX12_mostAlike_95 ?_
                refine lv_iconst (pc := 96) (v := 2) hx hb dX12_mostAlike_96 (by decide) ?_
                refine lv_iload (pc := 97) hx hb dX12_mostAlike_97 (lv_at hl 5 rfl) ?_
                refine lv_imul (pc := 99) hx hb dX12_mostAlike_99 ?_
                obtain ⟨r_100, hc_100, hf⟩ := bd1 hf
                refine r_dalVi (pc := 100) (ws' := (wX12_mostAlike E h h_inn h_tape h_far h_from h_real h_other h_kept h_set h_book h_noteSort h_whose h_what h_noteIs h_fitting h_dawn h_likes h_walked h_came h_inn_creak h_inn_doorA h_inn_doorB h_inn_how h_inn_lies h_inn_isCold h_inn_falls h_inn_isFull h_inn_isTold h_inn_act h_inn_what h_inn_then h_inn_met h_inn_bed h_inn_dream h_inn_listens h_inn_name h_inn_nameSort h_inn_nameNumber v_thrown v_trouble v_where v_read v_taped v_size v_at v_sort v_place v_sign v_number v_fault v_wrongAt v_word v_marks v_notes x57_dawn v_fitting v_inn_minutes v_inn_rooms v_inn_doors v_inn_things v_inn_dreams v_inn_sleepers v_inn_listeners v_inn_names x57_other v_inn_how v_inn_lies v_inn_isFull v_inn_bed v_inn_isTold v_inn_act v_inn_then v_inn_what v_inn_doorA v_inn_doorB x57_from v_inn_falls v_inn_creak v_inn_listens v_far v_inn_isCold v_inn_met)) (As := [.int (2 * x71_5), .int (2 * x83_7)]) (rest := [.int x83_6]) C (ctX12_isAlike l E h h_tape h_far h_from h_real h_other h_kept h_set h_real h_book h_noteSort h_whose h_what h_noteIs h_fitting h_dawn h_likes h_walked h_came v_thrown v_trouble v_where (some h_inn) v_read v_taped v_size v_at v_sort v_place v_sign v_number v_fault v_wrongAt v_word v_marks v_notes x57_dawn N (2 * x71_5) (2 * x83_7) r_100 hc_100) ml_X12_474 ⟨Nat.le_of_ble_eq_true rfl, Nat.le_of_ble_eq_true rfl⟩ hP hD hS 0 rfl rfl rfl [0, 1] [22, 23, 2, 3, 4, 5, 6, 7, 8, 9, 10, 11, 12, 13, 14, 15, 16, 17, 18, 19, 20, 21] 22 rfl rfl rfl rfl rfl rfl rfl hl.1 rfl (Nat.le_of_ble_eq_true rfl) ⟨Nat.zero_le _, Nat.zero_le _⟩ dX12_mostAlike_100 ?_
                clear hP hD hS; intro H locs hP hD hS
                refine jnK hf (fun j130 ej130 hf => ?_)
                have hj130 : ∀ (x130_s0 : Int32) (x130_s1 : Int32) , j130 (x130_s0, x130_s1) = some z → AT p l e (rmOf 8 185) s m args below meth c E A Q 0 0 8 [(0, .ref h), (1, .int p0), (4, .int x71_4), (5, .int x71_5), (7, .int x83_7)] (wX12_mostAlike E h h_inn h_tape h_far h_from h_real h_other h_kept h_set h_book h_noteSort h_whose h_what h_noteIs h_fitting h_dawn h_likes h_walked h_came h_inn_creak h_inn_doorA h_inn_doorB h_inn_how h_inn_lies h_inn_isCold h_inn_falls h_inn_isFull h_inn_isTold h_inn_act h_inn_what h_inn_then h_inn_met h_inn_bed h_inn_dream h_inn_listens h_inn_name h_inn_nameSort h_inn_nameNumber v_thrown v_trouble v_where v_read v_taped v_size v_at v_sort v_place v_sign v_number v_fault v_wrongAt v_word v_marks v_notes x57_dawn v_fitting v_inn_minutes v_inn_rooms v_inn_doors v_inn_things v_inn_dreams v_inn_sleepers v_inn_listeners v_inn_names x57_other v_inn_how v_inn_lies v_inn_isFull v_inn_bed v_inn_isTold v_inn_act v_inn_then v_inn_what v_inn_doorA v_inn_doorB x57_from v_inn_falls v_inn_creak v_inn_listens v_far v_inn_isCold v_inn_met) 130 [.int x130_s1, .int x130_s0] := by
                  intro x130_s0 x130_s1 hf H locs ls hl hP hD hS
                  rw [ej130] at hf
                  replace hf := un2_s hf
                  refine lv_iadd (pc := 130) hx hb dX12_mostAlike_130 ?_
                  refine lv_istore (pc := 131) (lv' := [(6, .int (x130_s0 + x130_s1)), (0, .ref h), (1, .int p0), (4, .int x71_4), (5, .int x71_5), (7, .int x83_7)]) hx hb dX12_mostAlike_131 hl (by decide) rfl (fun ls hl => ?_)
                  refine lv_iinc (pc := 133) (v := x83_7 + 1) (lv' := [(7, .int (x83_7 + 1)), (6, .int (x130_s0 + x130_s1)), (0, .ref h), (1, .int p0), (4, .int x71_4), (5, .int x71_5)]) hx hb dX12_mostAlike_133 hl (k := 5) rfl rfl (by decide) rfl (fun ls hl => ?_)
                  refine lv_goto (pc := 136) (tgt := 83) hx hb dX12_mostAlike_136 (by decide) ?_
                  exact ih83 (x130_s0 + x130_s1) (x83_7 + 1) hf _ _ _ (lv_sub hl [2, 3, 4, 5, 1, 0] rfl) hP hD hS
                clear ej130
                refine jnK hf (fun j129 ej129 hf => ?_)
                have hj129 : ∀ (x129_s0 : Int32) , j129 x129_s0 = some z → AT p l e (rmOf 8 185) s m args below meth c E A Q 0 0 8 [(0, .ref h), (1, .int p0), (4, .int x71_4), (5, .int x71_5), (7, .int x83_7)] (wX12_mostAlike E h h_inn h_tape h_far h_from h_real h_other h_kept h_set h_book h_noteSort h_whose h_what h_noteIs h_fitting h_dawn h_likes h_walked h_came h_inn_creak h_inn_doorA h_inn_doorB h_inn_how h_inn_lies h_inn_isCold h_inn_falls h_inn_isFull h_inn_isTold h_inn_act h_inn_what h_inn_then h_inn_met h_inn_bed h_inn_dream h_inn_listens h_inn_name h_inn_nameSort h_inn_nameNumber v_thrown v_trouble v_where v_read v_taped v_size v_at v_sort v_place v_sign v_number v_fault v_wrongAt v_word v_marks v_notes x57_dawn v_fitting v_inn_minutes v_inn_rooms v_inn_doors v_inn_things v_inn_dreams v_inn_sleepers v_inn_listeners v_inn_names x57_other v_inn_how v_inn_lies v_inn_isFull v_inn_bed v_inn_isTold v_inn_act v_inn_then v_inn_what v_inn_doorA v_inn_doorB x57_from v_inn_falls v_inn_creak v_inn_listens v_far v_inn_isCold v_inn_met) 129 [.int x129_s0] := by
                  intro x129_s0 hf H locs ls hl hP hD hS
                  rw [ej129] at hf
                  replace hf := un1_s hf
                  refine lv_iconst (pc := 129) (v := 0) hx hb dX12_mostAlike_129 (by decide) ?_
                  exact hj130 x129_s0 0 hf _ _ _ (lv_sub hl [0, 1, 2, 3, 4] rfl) hP hD hS
                clear ej129
                refine lv_if_eq (pc := 103) (tgt := 129) hx hb dX12_mostAlike_103 (by decide) (fun c_103 => ?_) (fun c_103 => ?_)
                · replace hf := it_t c_103 hf
                  exact hj129 x83_6 hf _ _ _ (lv_sub hl [0, 1, 2, 3, 5] rfl) hP hD hS
                · replace hf := it_f c_103 hf
                  refine lv_aload_n (pc := 106) hx hb dX12_mostAlike_106 rfl (lv_at hl 0 rfl) ?_
                  refine lv_iconst (pc := 107) (v := 2) hx hb dX12_mostAlike_107 (by decide) ?_
                  refine lv_iload (pc := 108) hx hb dX12_mostAlike_108 (lv_at hl 3 rfl) ?_
                  refine lv_imul (pc := 110) hx hb dX12_mostAlike_110 ?_
                  refine lv_iconst (pc := 111) (v := 1) hx hb dX12_mostAlike_111 (by decide) ?_
                  refine lv_iadd (pc := 112) hx hb dX12_mostAlike_112 ?_
                  refine lv_iconst (pc := 113) (v := 2) hx hb dX12_mostAlike_113 (by decide) ?_
                  refine lv_iload (pc := 114) hx hb dX12_mostAlike_114 (lv_at hl 5 rfl) ?_
                  refine lv_imul (pc := 116) hx hb dX12_mostAlike_116 ?_
                  refine lv_iconst (pc := 117) (v := 1) hx hb dX12_mostAlike_117 (by decide) ?_
                  refine lv_iadd (pc := 118) hx hb dX12_mostAlike_118 ?_
                  obtain ⟨r_119, hc_119, hf⟩ := bd1 hf
                  refine r_dalVi (pc := 119) (ws' := (wX12_mostAlike E h h_inn h_tape h_far h_from h_real h_other h_kept h_set h_book h_noteSort h_whose h_what h_noteIs h_fitting h_dawn h_likes h_walked h_came h_inn_creak h_inn_doorA h_inn_doorB h_inn_how h_inn_lies h_inn_isCold h_inn_falls h_inn_isFull h_inn_isTold h_inn_act h_inn_what h_inn_then h_inn_met h_inn_bed h_inn_dream h_inn_listens h_inn_name h_inn_nameSort h_inn_nameNumber v_thrown v_trouble v_where v_read v_taped v_size v_at v_sort v_place v_sign v_number v_fault v_wrongAt v_word v_marks v_notes x57_dawn v_fitting v_inn_minutes v_inn_rooms v_inn_doors v_inn_things v_inn_dreams v_inn_sleepers v_inn_listeners v_inn_names x57_other v_inn_how v_inn_lies v_inn_isFull v_inn_bed v_inn_isTold v_inn_act v_inn_then v_inn_what v_inn_doorA v_inn_doorB x57_from v_inn_falls v_inn_creak v_inn_listens v_far v_inn_isCold v_inn_met)) (As := [.int ((2 * x71_5) + 1), .int ((2 * x83_7) + 1)]) (rest := [.int x83_6]) C (ctX12_isAlike l E h h_tape h_far h_from h_real h_other h_kept h_set h_real h_book h_noteSort h_whose h_what h_noteIs h_fitting h_dawn h_likes h_walked h_came v_thrown v_trouble v_where (some h_inn) v_read v_taped v_size v_at v_sort v_place v_sign v_number v_fault v_wrongAt v_word v_marks v_notes x57_dawn N ((2 * x71_5) + 1) ((2 * x83_7) + 1) r_119 hc_119) ml_X12_474 ⟨Nat.le_of_ble_eq_true rfl, Nat.le_of_ble_eq_true rfl⟩ hP hD hS 0 rfl rfl rfl [0, 1] [22, 23, 2, 3, 4, 5, 6, 7, 8, 9, 10, 11, 12, 13, 14, 15, 16, 17, 18, 19, 20, 21] 22 rfl rfl rfl rfl rfl rfl rfl hl.1 rfl (Nat.le_of_ble_eq_true rfl) ⟨Nat.zero_le _, Nat.zero_le _⟩ dX12_mostAlike_119 ?_
                  clear hP hD hS; intro H locs hP hD hS
                  refine lv_if_eq (pc := 122) (tgt := 129) hx hb dX12_mostAlike_122 (by decide) (fun c_122 => ?_) (fun c_122 => ?_)
                  · replace hf := it_t c_122 hf
                    exact hj129 x83_6 hf _ _ _ (lv_sub hl [0, 1, 2, 3, 5] rfl) hP hD hS
                  · replace hf := it_f c_122 hf
                    refine lv_iconst (pc := 125) (v := 1) hx hb dX12_mostAlike_125 (by decide) ?_
                    refine lv_goto (pc := 126) (tgt := 130) hx hb dX12_mostAlike_126 (by decide) ?_
                    exact hj130 x83_6 1 hf _ _ _ (lv_sub hl [0, 1, 2, 3, 5] rfl) hP hD hS
          exact key83 _ 0 0 hf _ _ _ (lv_sub hl [2, 3, 4, 5, 1, 0] rfl) hP hD hS
    exact key71 _ 0 0 hf _ _ _ (lv_sub hl [2, 3, 1, 0] rfl) hP hD hS
  clear eK57
  have key11 : ∀ (n : Nat) (x11_4 : Int32) (x11_dawn : Nat → Int32) (x11_other : Nat → Int32) (x11_from : Nat → Int32) , lp (BX12_mostAlike_11 p0 N v_fitting p1 v_inn_minutes v_inn_rooms v_inn_doors v_inn_things v_inn_dreams v_inn_sleepers v_inn_listeners v_inn_how v_inn_lies v_inn_isFull v_inn_bed v_inn_isTold v_inn_act v_inn_then v_inn_what v_inn_doorA v_inn_doorB v_inn_falls v_inn_creak v_inn_listens v_far v_inn_isCold v_inn_met p2 K57) n (x11_4, x11_dawn, x11_other, x11_from) = some z → AT p l e (rmOf 8 185) s m args below meth c E A Q 0 0 8 [(0, .ref h), (1, .int p0), (2, .int p1), (3, .int p2), (4, .int x11_4)] [(h, .inr (11, [.int v_thrown, .int v_trouble, .int v_where, .ref h_inn, va_rf v_read, .ref h_tape, .int v_taped, .int v_size, .int v_at, .int v_sort, .int v_place, .int v_sign, .int v_number, .int v_fault, .int v_wrongAt, .long v_word, .ref h_far, .ref h_from, .ref h_real, .ref h_other, .ref h_kept, .ref h_set, .ref h_other, .int v_marks, .int v_notes, .ref h_book, .ref h_noteSort, .ref h_whose, .ref h_what, .ref h_noteIs, .ref h_fitting, .ref h_dawn, .ref h_likes, .ref h_walked, .ref h_came])), (h_dawn, aI E 3840 x11_dawn), (h_fitting, aI E 64 v_fitting), (h_inn, .inr (10, [.int v_inn_minutes, .int v_inn_rooms, .int v_inn_doors, .int v_inn_things, .int v_inn_dreams, .int v_inn_sleepers, .int v_inn_listeners, .int v_inn_names, .ref h_inn_creak, .ref h_inn_doorA, .ref h_inn_doorB, .ref h_inn_how, .ref h_inn_lies, .ref h_inn_isCold, .ref h_inn_falls, .ref h_inn_isFull, .ref h_inn_isTold, .ref h_inn_act, .ref h_inn_what, .ref h_inn_then, .ref h_inn_met, .ref h_inn_bed, .ref h_inn_dream, .ref h_inn_listens, .ref h_inn_name, .ref h_inn_nameSort, .ref h_inn_nameNumber])), (h_other, aI E 51 x11_other), (h_inn_how, aI E 10 v_inn_how), (h_inn_lies, aI E 4 v_inn_lies), (h_inn_isFull, aZ E 4 v_inn_isFull), (h_inn_bed, aI E 3 v_inn_bed), (h_inn_isTold, aZ E 16 v_inn_isTold), (h_inn_act, aI E 16 v_inn_act), (h_inn_then, aI E 16 v_inn_then), (h_inn_what, aI E 16 v_inn_what), (h_inn_doorA, aI E 10 v_inn_doorA), (h_inn_doorB, aI E 10 v_inn_doorB), (h_from, aI E 8 x11_from), (h_inn_falls, aZ E 10 v_inn_falls), (h_inn_creak, aI E 8 v_inn_creak), (h_inn_listens, aI E 3 v_inn_listens), (h_far, aI E 64 v_far), (h_inn_isCold, aZ E 8 v_inn_isCold), (h_inn_met, aI E 16 v_inn_met)] 11 [] := by
    intro n
    induction n with
    | zero => intro x11_4 x11_dawn x11_other x11_from hf; exact (lp_0 hf).elim
    | succ n ih11 =>
      intro x11_4 x11_dawn x11_other x11_from hf H locs ls hl hP hD hS
      replace hf := lp_s hf
      generalize lp (BX12_mostAlike_11 p0 N v_fitting p1 v_inn_minutes v_inn_rooms v_inn_doors v_inn_things v_inn_dreams v_inn_sleepers v_inn_listeners v_inn_how v_inn_lies v_inn_isFull v_inn_bed v_inn_isTold v_inn_act v_inn_then v_inn_what v_inn_doorA v_inn_doorB v_inn_falls v_inn_creak v_inn_listens v_far v_inn_isCold v_inn_met p2 K57) n = rec11 at ih11 hf
      unfold BX12_mostAlike_11 at hf
      replace hf := un4_s hf
      refine lv_iload (pc := 11) hx hb dX12_mostAlike_11 (lv_at hl 4 rfl) ?_
      refine lv_iload_n (pc := 13) hx hb dX12_mostAlike_13 rfl (lv_at hl 1 rfl) ?_
      refine lv_icmp_ge (pc := 14) (tgt := 57) hx hb dX12_mostAlike_14 (by decide) (fun c_14 => ?_) (fun c_14 => ?_)
      · replace hf := it_t c_14 hf
        exact hK57 x11_dawn x11_other x11_from hf _ _ _ (lv_sub hl [0, 1] rfl) hP hD hS
      · replace hf := it_f c_14 hf
        refine lv_aload_n (pc := 17) hx hb dX12_mostAlike_17 rfl (lv_at hl 0 rfl) ?_
        refine lv_aload_n (pc := 18) hx hb dX12_mostAlike_18 rfl (lv_at hl 0 rfl) ?_
        refine r_get (pc := 19) C hP 0 rfl fl_X12_55 rfl dX12_mostAlike_19 ?_
        refine lv_iload (pc := 22) hx hb dX12_mostAlike_22 (lv_at hl 4 rfl) ?_
        obtain ⟨hi_24, hf⟩ := gd_s hf
        refine r_iald (pc := 24) C hP 2 rfl hi_24 dX12_mostAlike_24 ?_
        refine lv_iload_n (pc := 25) hx hb dX12_mostAlike_25 rfl (lv_at hl 2 rfl) ?_
        refine lv_iconst (pc := 26) (v := 2) hx hb dX12_mostAlike_26 (by decide) ?_
        refine lv_iload (pc := 27) hx hb dX12_mostAlike_27 (lv_at hl 4 rfl) ?_
        refine lv_imul (pc := 29) hx hb dX12_mostAlike_29 ?_
        obtain ⟨v_other_30, v_from_30, v_dawn_30, hc_30, hf⟩ := bd3 hf
        refine r_dalVv (pc := 30) (ws' := [(h, .inr (11, [.int v_thrown, .int v_trouble, .int v_where, .ref h_inn, va_rf v_read, .ref h_tape, .int v_taped, .int v_size, .int v_at, .int v_sort, .int v_place, .int v_sign, .int v_number, .int v_fault, .int v_wrongAt, .long v_word, .ref h_far, .ref h_from, .ref h_real, .ref h_other, .ref h_kept, .ref h_set, .ref h_other, .int v_marks, .int v_notes, .ref h_book, .ref h_noteSort, .ref h_whose, .ref h_what, .ref h_noteIs, .ref h_fitting, .ref h_dawn, .ref h_likes, .ref h_walked, .ref h_came])), (h_dawn, aI E 3840 v_dawn_30), (h_fitting, aI E 64 v_fitting), (h_inn, .inr (10, [.int v_inn_minutes, .int v_inn_rooms, .int v_inn_doors, .int v_inn_things, .int v_inn_dreams, .int v_inn_sleepers, .int v_inn_listeners, .int v_inn_names, .ref h_inn_creak, .ref h_inn_doorA, .ref h_inn_doorB, .ref h_inn_how, .ref h_inn_lies, .ref h_inn_isCold, .ref h_inn_falls, .ref h_inn_isFull, .ref h_inn_isTold, .ref h_inn_act, .ref h_inn_what, .ref h_inn_then, .ref h_inn_met, .ref h_inn_bed, .ref h_inn_dream, .ref h_inn_listens, .ref h_inn_name, .ref h_inn_nameSort, .ref h_inn_nameNumber])), (h_other, aI E 51 v_other_30), (h_inn_how, aI E 10 v_inn_how), (h_inn_lies, aI E 4 v_inn_lies), (h_inn_isFull, aZ E 4 v_inn_isFull), (h_inn_bed, aI E 3 v_inn_bed), (h_inn_isTold, aZ E 16 v_inn_isTold), (h_inn_act, aI E 16 v_inn_act), (h_inn_then, aI E 16 v_inn_then), (h_inn_what, aI E 16 v_inn_what), (h_inn_doorA, aI E 10 v_inn_doorA), (h_inn_doorB, aI E 10 v_inn_doorB), (h_from, aI E 8 v_from_30), (h_inn_falls, aZ E 10 v_inn_falls), (h_inn_creak, aI E 8 v_inn_creak), (h_inn_listens, aI E 3 v_inn_listens), (h_far, aI E 64 v_far), (h_inn_isCold, aZ E 8 v_inn_isCold), (h_inn_met, aI E 16 v_inn_met)]) (As := [.int (v_fitting x11_4.toNatClampNeg), .int p1, .int (2 * x11_4)]) (rest := []) C (ctX12_dawns l E h h_inn h_tape h_far h_from h_real h_other h_kept h_set h_other h_book h_noteSort h_whose h_what h_noteIs h_fitting h_dawn h_likes h_walked h_came h_inn_creak h_inn_doorA h_inn_doorB h_inn_how h_inn_lies h_inn_isCold h_inn_falls h_inn_isFull h_inn_isTold h_inn_act h_inn_what h_inn_then h_inn_met h_inn_bed h_inn_dream h_inn_listens h_inn_name h_inn_nameSort h_inn_nameNumber v_thrown v_trouble v_where v_read v_taped v_size v_at v_sort v_place v_sign v_number v_fault v_wrongAt v_word v_marks v_notes v_inn_minutes v_inn_rooms v_inn_doors v_inn_things v_inn_dreams v_inn_sleepers v_inn_listeners v_inn_names x11_other v_inn_how v_inn_lies v_inn_isFull v_inn_bed v_inn_isTold v_inn_act v_inn_then v_inn_what v_inn_doorA v_inn_doorB x11_from v_inn_falls v_inn_creak v_inn_listens v_far v_inn_isCold v_inn_met x11_dawn N (v_fitting x11_4.toNatClampNeg) p1 (2 * x11_4) (v_other_30, v_from_30, v_dawn_30) hc_30) ml_X12_470 ⟨Nat.le_of_ble_eq_true rfl, Nat.le_of_ble_eq_true rfl⟩ hP hD hS 0 rfl rfl rfl [0, 3, 4, 5, 6, 7, 8, 9, 10, 11, 12, 13, 14, 15, 16, 17, 18, 19, 20, 21, 1] [22, 42, 2, 23, 24, 25, 26, 27, 28, 29, 30, 31, 32, 33, 34, 35, 36, 37, 38, 39, 40, 41] 22 rfl rfl rfl rfl rfl rfl rfl hl.1 rfl (Nat.le_of_ble_eq_true rfl) ⟨Nat.zero_le _, Nat.zero_le _⟩ dX12_mostAlike_30 ?_
        clear hP hD hS; intro H locs hP hD hS
        refine lv_aload_n (pc := 33) hx hb dX12_mostAlike_33 rfl (lv_at hl 0 rfl) ?_
        refine lv_aload_n (pc := 34) hx hb dX12_mostAlike_34 rfl (lv_at hl 0 rfl) ?_
        refine r_get (pc := 35) C hP 0 rfl fl_X12_55 rfl dX12_mostAlike_35 ?_
        refine lv_iload (pc := 38) hx hb dX12_mostAlike_38 (lv_at hl 4 rfl) ?_
        obtain ⟨hi_40, hf⟩ := gd_s hf
        refine r_iald (pc := 40) C hP 2 rfl hi_40 dX12_mostAlike_40 ?_
        refine lv_iload_n (pc := 41) hx hb dX12_mostAlike_41 rfl (lv_at hl 3 rfl) ?_
        refine lv_iconst (pc := 42) (v := 2) hx hb dX12_mostAlike_42 (by decide) ?_
        refine lv_iload (pc := 43) hx hb dX12_mostAlike_43 (lv_at hl 4 rfl) ?_
        refine lv_imul (pc := 45) hx hb dX12_mostAlike_45 ?_
        refine lv_iconst (pc := 46) (v := 1) hx hb dX12_mostAlike_46 (by decide) ?_
        refine lv_iadd (pc := 47) hx hb dX12_mostAlike_47 ?_
        obtain ⟨v_other_48, v_from_48, v_dawn_48, hc_48, hf⟩ := bd3 hf
        refine r_dalVv (pc := 48) (ws' := [(h, .inr (11, [.int v_thrown, .int v_trouble, .int v_where, .ref h_inn, va_rf v_read, .ref h_tape, .int v_taped, .int v_size, .int v_at, .int v_sort, .int v_place, .int v_sign, .int v_number, .int v_fault, .int v_wrongAt, .long v_word, .ref h_far, .ref h_from, .ref h_real, .ref h_other, .ref h_kept, .ref h_set, .ref h_other, .int v_marks, .int v_notes, .ref h_book, .ref h_noteSort, .ref h_whose, .ref h_what, .ref h_noteIs, .ref h_fitting, .ref h_dawn, .ref h_likes, .ref h_walked, .ref h_came])), (h_dawn, aI E 3840 v_dawn_48), (h_fitting, aI E 64 v_fitting), (h_inn, .inr (10, [.int v_inn_minutes, .int v_inn_rooms, .int v_inn_doors, .int v_inn_things, .int v_inn_dreams, .int v_inn_sleepers, .int v_inn_listeners, .int v_inn_names, .ref h_inn_creak, .ref h_inn_doorA, .ref h_inn_doorB, .ref h_inn_how, .ref h_inn_lies, .ref h_inn_isCold, .ref h_inn_falls, .ref h_inn_isFull, .ref h_inn_isTold, .ref h_inn_act, .ref h_inn_what, .ref h_inn_then, .ref h_inn_met, .ref h_inn_bed, .ref h_inn_dream, .ref h_inn_listens, .ref h_inn_name, .ref h_inn_nameSort, .ref h_inn_nameNumber])), (h_other, aI E 51 v_other_48), (h_inn_how, aI E 10 v_inn_how), (h_inn_lies, aI E 4 v_inn_lies), (h_inn_isFull, aZ E 4 v_inn_isFull), (h_inn_bed, aI E 3 v_inn_bed), (h_inn_isTold, aZ E 16 v_inn_isTold), (h_inn_act, aI E 16 v_inn_act), (h_inn_then, aI E 16 v_inn_then), (h_inn_what, aI E 16 v_inn_what), (h_inn_doorA, aI E 10 v_inn_doorA), (h_inn_doorB, aI E 10 v_inn_doorB), (h_from, aI E 8 v_from_48), (h_inn_falls, aZ E 10 v_inn_falls), (h_inn_creak, aI E 8 v_inn_creak), (h_inn_listens, aI E 3 v_inn_listens), (h_far, aI E 64 v_far), (h_inn_isCold, aZ E 8 v_inn_isCold), (h_inn_met, aI E 16 v_inn_met)]) (As := [.int (v_fitting x11_4.toNatClampNeg), .int p2, .int ((2 * x11_4) + 1)]) (rest := []) C (ctX12_dawns l E h h_inn h_tape h_far h_from h_real h_other h_kept h_set h_other h_book h_noteSort h_whose h_what h_noteIs h_fitting h_dawn h_likes h_walked h_came h_inn_creak h_inn_doorA h_inn_doorB h_inn_how h_inn_lies h_inn_isCold h_inn_falls h_inn_isFull h_inn_isTold h_inn_act h_inn_what h_inn_then h_inn_met h_inn_bed h_inn_dream h_inn_listens h_inn_name h_inn_nameSort h_inn_nameNumber v_thrown v_trouble v_where v_read v_taped v_size v_at v_sort v_place v_sign v_number v_fault v_wrongAt v_word v_marks v_notes v_inn_minutes v_inn_rooms v_inn_doors v_inn_things v_inn_dreams v_inn_sleepers v_inn_listeners v_inn_names v_other_30 v_inn_how v_inn_lies v_inn_isFull v_inn_bed v_inn_isTold v_inn_act v_inn_then v_inn_what v_inn_doorA v_inn_doorB v_from_30 v_inn_falls v_inn_creak v_inn_listens v_far v_inn_isCold v_inn_met v_dawn_30 N (v_fitting x11_4.toNatClampNeg) p2 ((2 * x11_4) + 1) (v_other_48, v_from_48, v_dawn_48) hc_48) ml_X12_470 ⟨Nat.le_of_ble_eq_true rfl, Nat.le_of_ble_eq_true rfl⟩ hP hD hS 0 rfl rfl rfl [0, 3, 4, 5, 6, 7, 8, 9, 10, 11, 12, 13, 14, 15, 16, 17, 18, 19, 20, 21, 1] [22, 42, 2, 23, 24, 25, 26, 27, 28, 29, 30, 31, 32, 33, 34, 35, 36, 37, 38, 39, 40, 41] 22 rfl rfl rfl rfl rfl rfl rfl hl.1 rfl (Nat.le_of_ble_eq_true rfl) ⟨Nat.zero_le _, Nat.zero_le _⟩ dX12_mostAlike_48 ?_
        clear hP hD hS; intro H locs hP hD hS
        refine lv_iinc (pc := 51) (v := x11_4 + 1) (lv' := [(4, .int (x11_4 + 1)), (0, .ref h), (1, .int p0), (2, .int p1), (3, .int p2)]) hx hb dX12_mostAlike_51 hl (k := 4) rfl rfl (by decide) rfl (fun ls hl => ?_)
        refine lv_goto (pc := 54) (tgt := 11) hx hb dX12_mostAlike_54 (by decide) ?_
        exact ih11 (x11_4 + 1) v_dawn_48 v_other_48 v_from_48 hf _ _ _ (lv_sub hl [1, 2, 3, 4, 0] rfl) hP hD hS
  exact key11 _ 0 v_dawn v_other v_from hf _ _ _ (lv_sub hl [1, 2, 3, 4, 0] rfl) hP hD hS
def wX12_parts (E : EN) (h h_inn h_tape h_far h_from h_real h_other h_kept h_set h_book h_noteSort h_whose h_what h_noteIs h_fitting h_dawn h_likes h_walked h_came h_inn_creak h_inn_doorA h_inn_doorB h_inn_how h_inn_lies h_inn_isCold h_inn_falls h_inn_isFull h_inn_isTold h_inn_act h_inn_what h_inn_then h_inn_met h_inn_bed h_inn_dream h_inn_listens h_inn_name h_inn_nameSort h_inn_nameNumber : Nat) (v_thrown : Int32) (v_trouble : Int32) (v_where : Int32) (v_read : Option Nat) (v_taped : Int32) (v_size : Int32) (v_at : Int32) (v_sort : Int32) (v_place : Int32) (v_sign : Int32) (v_number : Int32) (v_fault : Int32) (v_wrongAt : Int32) (v_word : Int64) (v_marks : Int32) (v_notes : Int32) (v_inn_minutes : Int32) (v_inn_rooms : Int32) (v_inn_doors : Int32) (v_inn_things : Int32) (v_inn_dreams : Int32) (v_inn_sleepers : Int32) (v_inn_listeners : Int32) (v_inn_names : Int32) (v_other : Nat → Int32) (v_inn_how : Nat → Int32) (v_inn_lies : Nat → Int32) (v_inn_isFull : Nat → Int32) (v_inn_bed : Nat → Int32) (v_inn_isTold : Nat → Int32) (v_inn_act : Nat → Int32) (v_inn_then : Nat → Int32) (v_inn_what : Nat → Int32) (v_inn_doorA : Nat → Int32) (v_inn_doorB : Nat → Int32) (v_from : Nat → Int32) (v_inn_falls : Nat → Int32) (v_inn_creak : Nat → Int32) (v_inn_listens : Nat → Int32) (v_far : Nat → Int32) (v_inn_isCold : Nat → Int32) (v_inn_met : Nat → Int32) (v_fitting : Nat → Int32) (v_book : Nat → Int32) (v_noteSort : Nat → Int32) (v_whose : Nat → Int32) (v_what : Nat → Int32) (v_noteIs : Nat → Int32) (v_dawn : Nat → Int32) : va_W := [(h, .inr (11, [.int v_thrown, .int v_trouble, .int v_where, .ref h_inn, va_rf v_read, .ref h_tape, .int v_taped, .int v_size, .int v_at, .int v_sort, .int v_place, .int v_sign, .int v_number, .int v_fault, .int v_wrongAt, .long v_word, .ref h_far, .ref h_from, .ref h_real, .ref h_other, .ref h_kept, .ref h_set, .ref h_real, .int v_marks, .int v_notes, .ref h_book, .ref h_noteSort, .ref h_whose, .ref h_what, .ref h_noteIs, .ref h_fitting, .ref h_dawn, .ref h_likes, .ref h_walked, .ref h_came])), (h_inn, .inr (10, [.int v_inn_minutes, .int v_inn_rooms, .int v_inn_doors, .int v_inn_things, .int v_inn_dreams, .int v_inn_sleepers, .int v_inn_listeners, .int v_inn_names, .ref h_inn_creak, .ref h_inn_doorA, .ref h_inn_doorB, .ref h_inn_how, .ref h_inn_lies, .ref h_inn_isCold, .ref h_inn_falls, .ref h_inn_isFull, .ref h_inn_isTold, .ref h_inn_act, .ref h_inn_what, .ref h_inn_then, .ref h_inn_met, .ref h_inn_bed, .ref h_inn_dream, .ref h_inn_listens, .ref h_inn_name, .ref h_inn_nameSort, .ref h_inn_nameNumber])), (h_other, aI E 51 v_other), (h_inn_how, aI E 10 v_inn_how), (h_inn_lies, aI E 4 v_inn_lies), (h_inn_isFull, aZ E 4 v_inn_isFull), (h_inn_bed, aI E 3 v_inn_bed), (h_inn_isTold, aZ E 16 v_inn_isTold), (h_inn_act, aI E 16 v_inn_act), (h_inn_then, aI E 16 v_inn_then), (h_inn_what, aI E 16 v_inn_what), (h_inn_doorA, aI E 10 v_inn_doorA), (h_inn_doorB, aI E 10 v_inn_doorB), (h_from, aI E 8 v_from), (h_inn_falls, aZ E 10 v_inn_falls), (h_inn_creak, aI E 8 v_inn_creak), (h_inn_listens, aI E 3 v_inn_listens), (h_far, aI E 64 v_far), (h_inn_isCold, aZ E 8 v_inn_isCold), (h_inn_met, aI E 16 v_inn_met), (h_fitting, aI E 64 v_fitting), (h_book, aI E 20 v_book), (h_noteSort, aI E 20 v_noteSort), (h_whose, aI E 20 v_whose), (h_what, aI E 20 v_what), (h_noteIs, aZ E 20 v_noteIs), (h_dawn, aI E 3840 v_dawn)]
def fX12_parts (N : Nat) (p0 : Int32) (v_notes : Int32) (v_inn_minutes : Int32) (v_inn_rooms : Int32) (v_inn_doors : Int32) (v_inn_things : Int32) (v_inn_dreams : Int32) (v_inn_sleepers : Int32) (v_inn_listeners : Int32) (v_other : Nat → Int32) (v_inn_how : Nat → Int32) (v_inn_lies : Nat → Int32) (v_inn_isFull : Nat → Int32) (v_inn_bed : Nat → Int32) (v_inn_isTold : Nat → Int32) (v_inn_act : Nat → Int32) (v_inn_then : Nat → Int32) (v_inn_what : Nat → Int32) (v_inn_doorA : Nat → Int32) (v_inn_doorB : Nat → Int32) (v_from : Nat → Int32) (v_inn_falls : Nat → Int32) (v_inn_creak : Nat → Int32) (v_inn_listens : Nat → Int32) (v_far : Nat → Int32) (v_inn_isCold : Nat → Int32) (v_inn_met : Nat → Int32) (v_fitting : Nat → Int32) (v_book : Nat → Int32) (v_noteSort : Nat → Int32) (v_whose : Nat → Int32) (v_what : Nat → Int32) (v_noteIs : Nat → Int32) (v_dawn : Nat → Int32) : Option (Int32 × Int32 × Int32 × Int32 × (Nat → Int32) × (Nat → Int32) × (Nat → Int32) × (Nat → Int32)) := (fX12_isSetting N p0 v_inn_doors).bind (un1 fun (r_7 : Int32) => if r_7 = 0 then ((fX12_refused N 1).bind (un3 fun (r_15 : Int32) (v_trouble_15 : Int32) (v_where_15 : Int32) => some (r_15, 0, v_trouble_15, v_where_15, v_other, v_from, v_fitting, v_dawn))) else ((fX12_fitsBy N 3 v_notes v_inn_minutes v_inn_rooms v_inn_doors v_inn_things v_inn_dreams v_inn_sleepers v_inn_listeners v_other v_inn_how v_inn_lies v_inn_isFull v_inn_bed v_inn_isTold v_inn_act v_inn_then v_inn_what v_inn_doorA v_inn_doorB v_from v_inn_falls v_inn_creak v_inn_listens v_far v_inn_isCold v_inn_met v_fitting v_book v_noteSort v_whose v_what v_noteIs).bind (un4 fun (r_21 : Int32) (v_other_21 : Nat → Int32) (v_from_21 : Nat → Int32) (v_fitting_21 : Nat → Int32) => if r_21 = 0 then ((fX12_refused N 6).bind (un3 fun (r_32 : Int32) (v_trouble_32 : Int32) (v_where_32 : Int32) => some (r_32, 0, v_trouble_32, v_where_32, v_other_21, v_from_21, v_fitting_21, v_dawn))) else ((fX12_mostAlike N r_21 p0 p0 v_dawn v_fitting_21 v_inn_minutes v_inn_rooms v_inn_doors v_inn_things v_inn_dreams v_inn_sleepers v_inn_listeners v_other_21 v_inn_how v_inn_lies v_inn_isFull v_inn_bed v_inn_isTold v_inn_act v_inn_then v_inn_what v_inn_doorA v_inn_doorB v_from_21 v_inn_falls v_inn_creak v_inn_listens v_far v_inn_isCold v_inn_met).bind (un4 fun (r_43 : Int32) (v_dawn_43 : Nat → Int32) (v_other_43 : Nat → Int32) (v_from_43 : Nat → Int32) => (fX12_good N r_43).bind (un3 fun (r_46 : Int32) (v_trouble_46 : Int32) (v_where_46 : Int32) => some (r_46, 0, v_trouble_46, v_where_46, v_other_43, v_from_43, v_fitting_21, v_dawn_43)))))))
set_option maxHeartbeats 4000000 in
set_option maxRecDepth 100000 in
theorem ctX12_parts (l : Launch) (E : EN) (h h_inn h_tape h_far h_from h_real h_other h_kept h_set h_book h_noteSort h_whose h_what h_noteIs h_fitting h_dawn h_likes h_walked h_came h_inn_creak h_inn_doorA h_inn_doorB h_inn_how h_inn_lies h_inn_isCold h_inn_falls h_inn_isFull h_inn_isTold h_inn_act h_inn_what h_inn_then h_inn_met h_inn_bed h_inn_dream h_inn_listens h_inn_name h_inn_nameSort h_inn_nameNumber : Nat) (v_thrown : Int32) (v_trouble : Int32) (v_where : Int32) (v_read : Option Nat) (v_taped : Int32) (v_size : Int32) (v_at : Int32) (v_sort : Int32) (v_place : Int32) (v_sign : Int32) (v_number : Int32) (v_fault : Int32) (v_wrongAt : Int32) (v_word : Int64) (v_marks : Int32) (v_notes : Int32) (v_inn_minutes : Int32) (v_inn_rooms : Int32) (v_inn_doors : Int32) (v_inn_things : Int32) (v_inn_dreams : Int32) (v_inn_sleepers : Int32) (v_inn_listeners : Int32) (v_inn_names : Int32) (v_other : Nat → Int32) (v_inn_how : Nat → Int32) (v_inn_lies : Nat → Int32) (v_inn_isFull : Nat → Int32) (v_inn_bed : Nat → Int32) (v_inn_isTold : Nat → Int32) (v_inn_act : Nat → Int32) (v_inn_then : Nat → Int32) (v_inn_what : Nat → Int32) (v_inn_doorA : Nat → Int32) (v_inn_doorB : Nat → Int32) (v_from : Nat → Int32) (v_inn_falls : Nat → Int32) (v_inn_creak : Nat → Int32) (v_inn_listens : Nat → Int32) (v_far : Nat → Int32) (v_inn_isCold : Nat → Int32) (v_inn_met : Nat → Int32) (v_fitting : Nat → Int32) (v_book : Nat → Int32) (v_noteSort : Nat → Int32) (v_whose : Nat → Int32) (v_what : Nat → Int32) (v_noteIs : Nat → Int32) (v_dawn : Nat → Int32) (N : Nat) (p0 : Int32) (z : Int32 × Int32 × Int32 × Int32 × (Nat → Int32) × (Nat → Int32) × (Nat → Int32) × (Nat → Int32)) (hf : fX12_parts N p0 v_notes v_inn_minutes v_inn_rooms v_inn_doors v_inn_things v_inn_dreams v_inn_sleepers v_inn_listeners v_other v_inn_how v_inn_lies v_inn_isFull v_inn_bed v_inn_isTold v_inn_act v_inn_then v_inn_what v_inn_doorA v_inn_doorB v_from v_inn_falls v_inn_creak v_inn_listens v_far v_inn_isCold v_inn_met v_fitting v_book v_noteSort v_whose v_what v_noteIs v_dawn = some z) : CTi l E yX12_parts cX12_parts 3 .int 9 212 [.ref h, .int p0] (wX12_parts E h h_inn h_tape h_far h_from h_real h_other h_kept h_set h_book h_noteSort h_whose h_what h_noteIs h_fitting h_dawn h_likes h_walked h_came h_inn_creak h_inn_doorA h_inn_doorB h_inn_how h_inn_lies h_inn_isCold h_inn_falls h_inn_isFull h_inn_isTold h_inn_act h_inn_what h_inn_then h_inn_met h_inn_bed h_inn_dream h_inn_listens h_inn_name h_inn_nameSort h_inn_nameNumber v_thrown v_trouble v_where v_read v_taped v_size v_at v_sort v_place v_sign v_number v_fault v_wrongAt v_word v_marks v_notes v_inn_minutes v_inn_rooms v_inn_doors v_inn_things v_inn_dreams v_inn_sleepers v_inn_listeners v_inn_names v_other v_inn_how v_inn_lies v_inn_isFull v_inn_bed v_inn_isTold v_inn_act v_inn_then v_inn_what v_inn_doorA v_inn_doorB v_from v_inn_falls v_inn_creak v_inn_listens v_far v_inn_isCold v_inn_met v_fitting v_book v_noteSort v_whose v_what v_noteIs v_dawn) (z.1) (wX12_parts E h h_inn h_tape h_far h_from h_real h_other h_kept h_set h_book h_noteSort h_whose h_what h_noteIs h_fitting h_dawn h_likes h_walked h_came h_inn_creak h_inn_doorA h_inn_doorB h_inn_how h_inn_lies h_inn_isCold h_inn_falls h_inn_isFull h_inn_isTold h_inn_act h_inn_what h_inn_then h_inn_met h_inn_bed h_inn_dream h_inn_listens h_inn_name h_inn_nameSort h_inn_nameNumber z.2.1 z.2.2.1 z.2.2.2.1 v_read v_taped v_size v_at v_sort v_place v_sign v_number v_fault v_wrongAt v_word v_marks v_notes v_inn_minutes v_inn_rooms v_inn_doors v_inn_things v_inn_dreams v_inn_sleepers v_inn_listeners v_inn_names z.2.2.2.2.1 v_inn_how v_inn_lies v_inn_isFull v_inn_bed v_inn_isTold v_inn_act v_inn_then v_inn_what v_inn_doorA v_inn_doorB z.2.2.2.2.2.1 v_inn_falls v_inn_creak v_inn_listens v_far v_inn_isCold v_inn_met z.2.2.2.2.2.2.1 v_book v_noteSort v_whose v_what v_noteIs z.2.2.2.2.2.2.2) := by
  intro sz
  refine ct_body (by decide) (Nat.le_of_ble_eq_true rfl) ?_
  intro p e s m args below meth c A ls hAe C hr hin hP hD hS hl
  have C : CX p s m args meth c cX12_parts RX12 3 E A := C
  have hl : lv_has ls 3 [(0, .ref h), (1, .int p0)] := hl
  have hx := C.1
  have hb := C.2.1
  rw [hAe]
  clear hAe
  obtain ⟨Q, hQ⟩ : ∃ Q, Q = MQ below (Qi E A (z.1) (wX12_parts E h h_inn h_tape h_far h_from h_real h_other h_kept h_set h_book h_noteSort h_whose h_what h_noteIs h_fitting h_dawn h_likes h_walked h_came h_inn_creak h_inn_doorA h_inn_doorB h_inn_how h_inn_lies h_inn_isCold h_inn_falls h_inn_isFull h_inn_isTold h_inn_act h_inn_what h_inn_then h_inn_met h_inn_bed h_inn_dream h_inn_listens h_inn_name h_inn_nameSort h_inn_nameNumber z.2.1 z.2.2.1 z.2.2.2.1 v_read v_taped v_size v_at v_sort v_place v_sign v_number v_fault v_wrongAt v_word v_marks v_notes v_inn_minutes v_inn_rooms v_inn_doors v_inn_things v_inn_dreams v_inn_sleepers v_inn_listeners v_inn_names z.2.2.2.2.1 v_inn_how v_inn_lies v_inn_isFull v_inn_bed v_inn_isTold v_inn_act v_inn_then v_inn_what v_inn_doorA v_inn_doorB z.2.2.2.2.2.1 v_inn_falls v_inn_creak v_inn_listens v_far v_inn_isCold v_inn_met z.2.2.2.2.2.2.1 v_book v_noteSort v_whose v_what v_noteIs z.2.2.2.2.2.2.2)) args s 0 0 A := ⟨_, rfl⟩
  rw [← hQ]
  unfold fX12_parts at hf
  refine lv_aload_n (pc := 0) hx hb dX12_parts_0 rfl (lv_at hl 0 rfl) ?_
  refine lv_iconst (pc := 1) (v := 0) hx hb dX12_parts_1 (by decide) ?_
  refine r_put (pc := 2) (ws' := (wX12_parts E h h_inn h_tape h_far h_from h_real h_other h_kept h_set h_book h_noteSort h_whose h_what h_noteIs h_fitting h_dawn h_likes h_walked h_came h_inn_creak h_inn_doorA h_inn_doorB h_inn_how h_inn_lies h_inn_isCold h_inn_falls h_inn_isFull h_inn_isTold h_inn_act h_inn_what h_inn_then h_inn_met h_inn_bed h_inn_dream h_inn_listens h_inn_name h_inn_nameSort h_inn_nameNumber 0 v_trouble v_where v_read v_taped v_size v_at v_sort v_place v_sign v_number v_fault v_wrongAt v_word v_marks v_notes v_inn_minutes v_inn_rooms v_inn_doors v_inn_things v_inn_dreams v_inn_sleepers v_inn_listeners v_inn_names v_other v_inn_how v_inn_lies v_inn_isFull v_inn_bed v_inn_isTold v_inn_act v_inn_then v_inn_what v_inn_doorA v_inn_doorB v_from v_inn_falls v_inn_creak v_inn_listens v_far v_inn_isCold v_inn_met v_fitting v_book v_noteSort v_whose v_what v_noteIs v_dawn)) C hP hD hS 0 rfl fl_X12_71 rfl rfl (Nat.le_of_ble_eq_true rfl) rfl dX12_parts_2 ?_
  clear hP hD hS; intro H locs hP hD hS
  refine lv_aload_n (pc := 5) hx hb dX12_parts_5 rfl (lv_at hl 0 rfl) ?_
  refine lv_iload_n (pc := 6) hx hb dX12_parts_6 rfl (lv_at hl 1 rfl) ?_
  obtain ⟨r_7, hc_7, hf⟩ := bd1 hf
  refine r_dalVi (pc := 7) (ws' := (wX12_parts E h h_inn h_tape h_far h_from h_real h_other h_kept h_set h_book h_noteSort h_whose h_what h_noteIs h_fitting h_dawn h_likes h_walked h_came h_inn_creak h_inn_doorA h_inn_doorB h_inn_how h_inn_lies h_inn_isCold h_inn_falls h_inn_isFull h_inn_isTold h_inn_act h_inn_what h_inn_then h_inn_met h_inn_bed h_inn_dream h_inn_listens h_inn_name h_inn_nameSort h_inn_nameNumber 0 v_trouble v_where v_read v_taped v_size v_at v_sort v_place v_sign v_number v_fault v_wrongAt v_word v_marks v_notes v_inn_minutes v_inn_rooms v_inn_doors v_inn_things v_inn_dreams v_inn_sleepers v_inn_listeners v_inn_names v_other v_inn_how v_inn_lies v_inn_isFull v_inn_bed v_inn_isTold v_inn_act v_inn_then v_inn_what v_inn_doorA v_inn_doorB v_from v_inn_falls v_inn_creak v_inn_listens v_far v_inn_isCold v_inn_met v_fitting v_book v_noteSort v_whose v_what v_noteIs v_dawn)) (As := [.int p0]) (rest := []) C (ctX12_isSetting l E h h_inn h_tape h_far h_from h_real h_other h_kept h_set h_real h_book h_noteSort h_whose h_what h_noteIs h_fitting h_dawn h_likes h_walked h_came h_inn_creak h_inn_doorA h_inn_doorB h_inn_how h_inn_lies h_inn_isCold h_inn_falls h_inn_isFull h_inn_isTold h_inn_act h_inn_what h_inn_then h_inn_met h_inn_bed h_inn_dream h_inn_listens h_inn_name h_inn_nameSort h_inn_nameNumber 0 v_trouble v_where v_read v_taped v_size v_at v_sort v_place v_sign v_number v_fault v_wrongAt v_word v_marks v_notes v_inn_minutes v_inn_rooms v_inn_doors v_inn_things v_inn_dreams v_inn_sleepers v_inn_listeners v_inn_names N p0 r_7 hc_7) ml_X12_412 ⟨Nat.le_of_ble_eq_true rfl, Nat.le_of_ble_eq_true rfl⟩ hP hD hS 0 rfl rfl rfl [0, 1] [27, 28, 2, 3, 4, 5, 6, 7, 8, 9, 10, 11, 12, 13, 14, 15, 16, 17, 18, 19, 20, 21, 22, 23, 24, 25, 26] 27 rfl rfl rfl rfl rfl rfl rfl hl.1 rfl (Nat.le_of_ble_eq_true rfl) ⟨Nat.zero_le _, Nat.zero_le _⟩ dX12_parts_7 ?_
  clear hP hD hS; intro H locs hP hD hS
  refine lv_if_ne (pc := 10) (tgt := 19) hx hb dX12_parts_10 (by decide) (fun c_10 => ?_) (fun c_10 => ?_)
  · replace hf := it_f c_10 hf
    refine lv_aload_n (pc := 19) hx hb dX12_parts_19 rfl (lv_at hl 0 rfl) ?_
    refine lv_iconst (pc := 20) (v := 3) hx hb dX12_parts_20 (by decide) ?_
    obtain ⟨r_21, v_other_21, v_from_21, v_fitting_21, hc_21, hf⟩ := bd4 hf
    refine r_dalVi (pc := 21) (ws' := (wX12_parts E h h_inn h_tape h_far h_from h_real h_other h_kept h_set h_book h_noteSort h_whose h_what h_noteIs h_fitting h_dawn h_likes h_walked h_came h_inn_creak h_inn_doorA h_inn_doorB h_inn_how h_inn_lies h_inn_isCold h_inn_falls h_inn_isFull h_inn_isTold h_inn_act h_inn_what h_inn_then h_inn_met h_inn_bed h_inn_dream h_inn_listens h_inn_name h_inn_nameSort h_inn_nameNumber 0 v_trouble v_where v_read v_taped v_size v_at v_sort v_place v_sign v_number v_fault v_wrongAt v_word v_marks v_notes v_inn_minutes v_inn_rooms v_inn_doors v_inn_things v_inn_dreams v_inn_sleepers v_inn_listeners v_inn_names v_other_21 v_inn_how v_inn_lies v_inn_isFull v_inn_bed v_inn_isTold v_inn_act v_inn_then v_inn_what v_inn_doorA v_inn_doorB v_from_21 v_inn_falls v_inn_creak v_inn_listens v_far v_inn_isCold v_inn_met v_fitting_21 v_book v_noteSort v_whose v_what v_noteIs v_dawn)) (As := [.int 3]) (rest := []) C (ctX12_fitsBy l E h h_inn h_tape h_far h_from h_real h_other h_kept h_set h_book h_noteSort h_whose h_what h_noteIs h_fitting h_dawn h_likes h_walked h_came h_inn_creak h_inn_doorA h_inn_doorB h_inn_how h_inn_lies h_inn_isCold h_inn_falls h_inn_isFull h_inn_isTold h_inn_act h_inn_what h_inn_then h_inn_met h_inn_bed h_inn_dream h_inn_listens h_inn_name h_inn_nameSort h_inn_nameNumber 0 v_trouble v_where v_read v_taped v_size v_at v_sort v_place v_sign v_number v_fault v_wrongAt v_word v_marks v_notes v_inn_minutes v_inn_rooms v_inn_doors v_inn_things v_inn_dreams v_inn_sleepers v_inn_listeners v_inn_names v_other v_inn_how v_inn_lies v_inn_isFull v_inn_bed v_inn_isTold v_inn_act v_inn_then v_inn_what v_inn_doorA v_inn_doorB v_from v_inn_falls v_inn_creak v_inn_listens v_far v_inn_isCold v_inn_met v_fitting v_book v_noteSort v_whose v_what v_noteIs N 3 (r_21, v_other_21, v_from_21, v_fitting_21) hc_21) ml_X12_464 ⟨Nat.le_of_ble_eq_true rfl, Nat.le_of_ble_eq_true rfl⟩ hP hD hS 0 rfl rfl rfl [0, 1, 2, 3, 4, 5, 6, 7, 8, 9, 10, 11, 12, 13, 14, 15, 16, 17, 18, 19, 20, 21, 22, 23, 24, 25] [27, 28, 29, 30, 31, 32, 33, 34, 35, 36, 37, 38, 39, 40, 41, 42, 43, 44, 45, 46, 47, 48, 49, 50, 51, 52, 26] 27 rfl rfl rfl rfl rfl rfl rfl hl.1 rfl (Nat.le_of_ble_eq_true rfl) ⟨Nat.zero_le _, Nat.zero_le _⟩ dX12_parts_21 ?_
    clear hP hD hS; intro H locs hP hD hS
    refine lv_istore_n (pc := 24) (lv' := [(2, .int r_21), (0, .ref h), (1, .int p0)]) hx hb dX12_parts_24 rfl hl (by decide) rfl (fun ls hl => ?_)
    refine lv_iload_n (pc := 25) hx hb dX12_parts_25 rfl (lv_at hl 0 rfl) ?_
    refine lv_if_ne (pc := 26) (tgt := 38) hx hb dX12_parts_26 (by decide) (fun c_26 => ?_) (fun c_26 => ?_)
    · replace hf := it_f c_26 hf
      refine lv_aload_n (pc := 38) hx hb dX12_parts_38 rfl (lv_at hl 1 rfl) ?_
      refine lv_aload_n (pc := 39) hx hb dX12_parts_39 rfl (lv_at hl 1 rfl) ?_
      refine lv_iload_n (pc := 40) hx hb dX12_parts_40 rfl (lv_at hl 0 rfl) ?_
      refine lv_iload_n (pc := 41) hx hb dX12_parts_41 rfl (lv_at hl 2 rfl) ?_
      refine lv_iload_n (pc := 42) hx hb dX12_parts_42 rfl (lv_at hl 2 rfl) ?_
      obtain ⟨r_43, v_dawn_43, v_other_43, v_from_43, hc_43, hf⟩ := bd4 hf
      refine r_dalVi (pc := 43) (ws' := (wX12_parts E h h_inn h_tape h_far h_from h_real h_other h_kept h_set h_book h_noteSort h_whose h_what h_noteIs h_fitting h_dawn h_likes h_walked h_came h_inn_creak h_inn_doorA h_inn_doorB h_inn_how h_inn_lies h_inn_isCold h_inn_falls h_inn_isFull h_inn_isTold h_inn_act h_inn_what h_inn_then h_inn_met h_inn_bed h_inn_dream h_inn_listens h_inn_name h_inn_nameSort h_inn_nameNumber 0 v_trouble v_where v_read v_taped v_size v_at v_sort v_place v_sign v_number v_fault v_wrongAt v_word v_marks v_notes v_inn_minutes v_inn_rooms v_inn_doors v_inn_things v_inn_dreams v_inn_sleepers v_inn_listeners v_inn_names v_other_43 v_inn_how v_inn_lies v_inn_isFull v_inn_bed v_inn_isTold v_inn_act v_inn_then v_inn_what v_inn_doorA v_inn_doorB v_from_43 v_inn_falls v_inn_creak v_inn_listens v_far v_inn_isCold v_inn_met v_fitting_21 v_book v_noteSort v_whose v_what v_noteIs v_dawn_43)) (As := [.int r_21, .int p0, .int p0]) (rest := [.ref h]) C (ctX12_mostAlike l E h h_inn h_tape h_far h_from h_real h_other h_kept h_set h_book h_noteSort h_whose h_what h_noteIs h_fitting h_dawn h_likes h_walked h_came h_inn_creak h_inn_doorA h_inn_doorB h_inn_how h_inn_lies h_inn_isCold h_inn_falls h_inn_isFull h_inn_isTold h_inn_act h_inn_what h_inn_then h_inn_met h_inn_bed h_inn_dream h_inn_listens h_inn_name h_inn_nameSort h_inn_nameNumber 0 v_trouble v_where v_read v_taped v_size v_at v_sort v_place v_sign v_number v_fault v_wrongAt v_word v_marks v_notes v_dawn v_fitting_21 v_inn_minutes v_inn_rooms v_inn_doors v_inn_things v_inn_dreams v_inn_sleepers v_inn_listeners v_inn_names v_other_21 v_inn_how v_inn_lies v_inn_isFull v_inn_bed v_inn_isTold v_inn_act v_inn_then v_inn_what v_inn_doorA v_inn_doorB v_from_21 v_inn_falls v_inn_creak v_inn_listens v_far v_inn_isCold v_inn_met N r_21 p0 p0 (r_43, v_dawn_43, v_other_43, v_from_43) hc_43) ml_X12_477 ⟨Nat.le_of_ble_eq_true rfl, Nat.le_of_ble_eq_true rfl⟩ hP hD hS 0 rfl rfl rfl [0, 26, 20, 1, 2, 3, 4, 5, 6, 7, 8, 9, 10, 11, 12, 13, 14, 15, 16, 17, 18, 19] [27, 30, 31, 32, 33, 34, 35, 36, 37, 38, 39, 40, 41, 42, 43, 44, 45, 46, 47, 48, 29, 21, 22, 23, 24, 25, 28] 27 rfl rfl rfl rfl rfl rfl rfl hl.1 rfl (Nat.le_of_ble_eq_true rfl) ⟨Nat.zero_le _, Nat.zero_le _⟩ dX12_parts_43 ?_
      clear hP hD hS; intro H locs hP hD hS
      obtain ⟨r_46, v_trouble_46, v_where_46, hc_46, hf⟩ := bd3 hf
      refine r_dalVi (pc := 46) (ws' := (wX12_parts E h h_inn h_tape h_far h_from h_real h_other h_kept h_set h_book h_noteSort h_whose h_what h_noteIs h_fitting h_dawn h_likes h_walked h_came h_inn_creak h_inn_doorA h_inn_doorB h_inn_how h_inn_lies h_inn_isCold h_inn_falls h_inn_isFull h_inn_isTold h_inn_act h_inn_what h_inn_then h_inn_met h_inn_bed h_inn_dream h_inn_listens h_inn_name h_inn_nameSort h_inn_nameNumber 0 v_trouble_46 v_where_46 v_read v_taped v_size v_at v_sort v_place v_sign v_number v_fault v_wrongAt v_word v_marks v_notes v_inn_minutes v_inn_rooms v_inn_doors v_inn_things v_inn_dreams v_inn_sleepers v_inn_listeners v_inn_names v_other_43 v_inn_how v_inn_lies v_inn_isFull v_inn_bed v_inn_isTold v_inn_act v_inn_then v_inn_what v_inn_doorA v_inn_doorB v_from_43 v_inn_falls v_inn_creak v_inn_listens v_far v_inn_isCold v_inn_met v_fitting_21 v_book v_noteSort v_whose v_what v_noteIs v_dawn_43)) (As := [.int r_43]) (rest := []) C (ctX12_good l E h h_tape h_far h_from h_real h_other h_kept h_set h_real h_book h_noteSort h_whose h_what h_noteIs h_fitting h_dawn h_likes h_walked h_came 0 v_trouble v_where (some h_inn) v_read v_taped v_size v_at v_sort v_place v_sign v_number v_fault v_wrongAt v_word v_marks v_notes N r_43 (r_46, v_trouble_46, v_where_46) hc_46) ml_X12_81 ⟨Nat.le_of_ble_eq_true rfl, Nat.le_of_ble_eq_true rfl⟩ hP hD hS 0 rfl rfl rfl [0] [27, 1, 2, 3, 4, 5, 6, 7, 8, 9, 10, 11, 12, 13, 14, 15, 16, 17, 18, 19, 20, 21, 22, 23, 24, 25, 26] 27 rfl rfl rfl rfl rfl rfl rfl hl.1 rfl (Nat.le_of_ble_eq_true rfl) ⟨Nat.zero_le _, Nat.zero_le _⟩ dX12_parts_46 ?_
      clear hP hD hS; intro H locs hP hD hS
      cases hf
      rw [hQ]
      exact r_iret C hr hP hD hS rfl dX12_parts_49
    · replace hf := it_t c_26 hf
      refine lv_aload_n (pc := 29) hx hb dX12_parts_29 rfl (lv_at hl 1 rfl) ?_
      refine lv_bipush (pc := 30) (v := 6) hx hb dX12_parts_30 (by decide) ?_
      obtain ⟨r_32, v_trouble_32, v_where_32, hc_32, hf⟩ := bd3 hf
      refine r_dalVi (pc := 32) (ws' := (wX12_parts E h h_inn h_tape h_far h_from h_real h_other h_kept h_set h_book h_noteSort h_whose h_what h_noteIs h_fitting h_dawn h_likes h_walked h_came h_inn_creak h_inn_doorA h_inn_doorB h_inn_how h_inn_lies h_inn_isCold h_inn_falls h_inn_isFull h_inn_isTold h_inn_act h_inn_what h_inn_then h_inn_met h_inn_bed h_inn_dream h_inn_listens h_inn_name h_inn_nameSort h_inn_nameNumber 0 v_trouble_32 v_where_32 v_read v_taped v_size v_at v_sort v_place v_sign v_number v_fault v_wrongAt v_word v_marks v_notes v_inn_minutes v_inn_rooms v_inn_doors v_inn_things v_inn_dreams v_inn_sleepers v_inn_listeners v_inn_names v_other_21 v_inn_how v_inn_lies v_inn_isFull v_inn_bed v_inn_isTold v_inn_act v_inn_then v_inn_what v_inn_doorA v_inn_doorB v_from_21 v_inn_falls v_inn_creak v_inn_listens v_far v_inn_isCold v_inn_met v_fitting_21 v_book v_noteSort v_whose v_what v_noteIs v_dawn)) (As := [.int 6]) (rest := []) C (ctX12_refused l E h h_tape h_far h_from h_real h_other h_kept h_set h_real h_book h_noteSort h_whose h_what h_noteIs h_fitting h_dawn h_likes h_walked h_came 0 v_trouble v_where (some h_inn) v_read v_taped v_size v_at v_sort v_place v_sign v_number v_fault v_wrongAt v_word v_marks v_notes N 6 (r_32, v_trouble_32, v_where_32) hc_32) ml_X12_77 ⟨Nat.le_of_ble_eq_true rfl, Nat.le_of_ble_eq_true rfl⟩ hP hD hS 0 rfl rfl rfl [0] [27, 1, 2, 3, 4, 5, 6, 7, 8, 9, 10, 11, 12, 13, 14, 15, 16, 17, 18, 19, 20, 21, 22, 23, 24, 25, 26] 27 rfl rfl rfl rfl rfl rfl rfl hl.1 rfl (Nat.le_of_ble_eq_true rfl) ⟨Nat.zero_le _, Nat.zero_le _⟩ dX12_parts_32 ?_
      clear hP hD hS; intro H locs hP hD hS
      refine lv_goto (pc := 35) (tgt := 49) hx hb dX12_parts_35 (by decide) ?_
      cases hf
      rw [hQ]
      exact r_iret C hr hP hD hS rfl dX12_parts_49
  · replace hf := it_t c_10 hf
    refine lv_aload_n (pc := 13) hx hb dX12_parts_13 rfl (lv_at hl 0 rfl) ?_
    refine lv_iconst (pc := 14) (v := 1) hx hb dX12_parts_14 (by decide) ?_
    obtain ⟨r_15, v_trouble_15, v_where_15, hc_15, hf⟩ := bd3 hf
    refine r_dalVi (pc := 15) (ws' := (wX12_parts E h h_inn h_tape h_far h_from h_real h_other h_kept h_set h_book h_noteSort h_whose h_what h_noteIs h_fitting h_dawn h_likes h_walked h_came h_inn_creak h_inn_doorA h_inn_doorB h_inn_how h_inn_lies h_inn_isCold h_inn_falls h_inn_isFull h_inn_isTold h_inn_act h_inn_what h_inn_then h_inn_met h_inn_bed h_inn_dream h_inn_listens h_inn_name h_inn_nameSort h_inn_nameNumber 0 v_trouble_15 v_where_15 v_read v_taped v_size v_at v_sort v_place v_sign v_number v_fault v_wrongAt v_word v_marks v_notes v_inn_minutes v_inn_rooms v_inn_doors v_inn_things v_inn_dreams v_inn_sleepers v_inn_listeners v_inn_names v_other v_inn_how v_inn_lies v_inn_isFull v_inn_bed v_inn_isTold v_inn_act v_inn_then v_inn_what v_inn_doorA v_inn_doorB v_from v_inn_falls v_inn_creak v_inn_listens v_far v_inn_isCold v_inn_met v_fitting v_book v_noteSort v_whose v_what v_noteIs v_dawn)) (As := [.int 1]) (rest := []) C (ctX12_refused l E h h_tape h_far h_from h_real h_other h_kept h_set h_real h_book h_noteSort h_whose h_what h_noteIs h_fitting h_dawn h_likes h_walked h_came 0 v_trouble v_where (some h_inn) v_read v_taped v_size v_at v_sort v_place v_sign v_number v_fault v_wrongAt v_word v_marks v_notes N 1 (r_15, v_trouble_15, v_where_15) hc_15) ml_X12_77 ⟨Nat.le_of_ble_eq_true rfl, Nat.le_of_ble_eq_true rfl⟩ hP hD hS 0 rfl rfl rfl [0] [27, 1, 2, 3, 4, 5, 6, 7, 8, 9, 10, 11, 12, 13, 14, 15, 16, 17, 18, 19, 20, 21, 22, 23, 24, 25, 26] 27 rfl rfl rfl rfl rfl rfl rfl hl.1 rfl (Nat.le_of_ble_eq_true rfl) ⟨Nat.zero_le _, Nat.zero_le _⟩ dX12_parts_15 ?_
    clear hP hD hS; intro H locs hP hD hS
    cases hf
    rw [hQ]
    exact r_iret C hr hP hD hS rfl dX12_parts_18
def wX12_parts0 (E : EN) (h h_tape h_far h_from h_real h_other h_kept h_set h_book h_noteSort h_whose h_what h_noteIs h_fitting h_dawn h_likes h_walked h_came : Nat) (v_thrown : Int32) (v_trouble : Int32) (v_where : Int32) (v_read : Option Nat) (v_taped : Int32) (v_size : Int32) (v_at : Int32) (v_sort : Int32) (v_place : Int32) (v_sign : Int32) (v_number : Int32) (v_fault : Int32) (v_wrongAt : Int32) (v_word : Int64) (v_marks : Int32) (v_notes : Int32) : va_W := [(h, .inr (11, [.int v_thrown, .int v_trouble, .int v_where, .null, va_rf v_read, .ref h_tape, .int v_taped, .int v_size, .int v_at, .int v_sort, .int v_place, .int v_sign, .int v_number, .int v_fault, .int v_wrongAt, .long v_word, .ref h_far, .ref h_from, .ref h_real, .ref h_other, .ref h_kept, .ref h_set, .ref h_real, .int v_marks, .int v_notes, .ref h_book, .ref h_noteSort, .ref h_whose, .ref h_what, .ref h_noteIs, .ref h_fitting, .ref h_dawn, .ref h_likes, .ref h_walked, .ref h_came]))]
def fX12_parts0 (N : Nat) : Option (Int32 × Int32 × Int32 × Int32) := (fX12_isSetting0 N).bind (un1 fun (r_7 : Int32) => if r_7 = 0 then ((fX12_refused N 1).bind (un3 fun (r_15 : Int32) (v_trouble_15 : Int32) (v_where_15 : Int32) => some (r_15, 0, v_trouble_15, v_where_15))) else (none))
set_option maxHeartbeats 4000000 in
set_option maxRecDepth 100000 in
theorem ctX12_parts0 (l : Launch) (E : EN) (h h_tape h_far h_from h_real h_other h_kept h_set h_book h_noteSort h_whose h_what h_noteIs h_fitting h_dawn h_likes h_walked h_came : Nat) (v_thrown : Int32) (v_trouble : Int32) (v_where : Int32) (v_read : Option Nat) (v_taped : Int32) (v_size : Int32) (v_at : Int32) (v_sort : Int32) (v_place : Int32) (v_sign : Int32) (v_number : Int32) (v_fault : Int32) (v_wrongAt : Int32) (v_word : Int64) (v_marks : Int32) (v_notes : Int32) (N : Nat) (p0 : Int32) (z : Int32 × Int32 × Int32 × Int32) (hf : fX12_parts0 N  = some z) : CTi l E yX12_parts cX12_parts 3 .int 1 21 [.ref h, .int p0] (wX12_parts0 E h h_tape h_far h_from h_real h_other h_kept h_set h_book h_noteSort h_whose h_what h_noteIs h_fitting h_dawn h_likes h_walked h_came v_thrown v_trouble v_where v_read v_taped v_size v_at v_sort v_place v_sign v_number v_fault v_wrongAt v_word v_marks v_notes) (z.1) (wX12_parts0 E h h_tape h_far h_from h_real h_other h_kept h_set h_book h_noteSort h_whose h_what h_noteIs h_fitting h_dawn h_likes h_walked h_came z.2.1 z.2.2.1 z.2.2.2 v_read v_taped v_size v_at v_sort v_place v_sign v_number v_fault v_wrongAt v_word v_marks v_notes) := by
  intro sz
  refine ct_body (by decide) (Nat.le_of_ble_eq_true rfl) ?_
  intro p e s m args below meth c A ls hAe C hr hin hP hD hS hl
  have C : CX p s m args meth c cX12_parts RX12 3 E A := C
  have hl : lv_has ls 3 [(0, .ref h), (1, .int p0)] := hl
  have hx := C.1
  have hb := C.2.1
  rw [hAe]
  clear hAe
  obtain ⟨Q, hQ⟩ : ∃ Q, Q = MQ below (Qi E A (z.1) (wX12_parts0 E h h_tape h_far h_from h_real h_other h_kept h_set h_book h_noteSort h_whose h_what h_noteIs h_fitting h_dawn h_likes h_walked h_came z.2.1 z.2.2.1 z.2.2.2 v_read v_taped v_size v_at v_sort v_place v_sign v_number v_fault v_wrongAt v_word v_marks v_notes)) args s 0 0 A := ⟨_, rfl⟩
  rw [← hQ]
  unfold fX12_parts0 at hf
  refine lv_aload_n (pc := 0) hx hb dX12_parts_0 rfl (lv_at hl 0 rfl) ?_
  refine lv_iconst (pc := 1) (v := 0) hx hb dX12_parts_1 (by decide) ?_
  refine r_put (pc := 2) (ws' := (wX12_parts0 E h h_tape h_far h_from h_real h_other h_kept h_set h_book h_noteSort h_whose h_what h_noteIs h_fitting h_dawn h_likes h_walked h_came 0 v_trouble v_where v_read v_taped v_size v_at v_sort v_place v_sign v_number v_fault v_wrongAt v_word v_marks v_notes)) C hP hD hS 0 rfl fl_X12_71 rfl rfl (Nat.le_of_ble_eq_true rfl) rfl dX12_parts_2 ?_
  clear hP hD hS; intro H locs hP hD hS
  refine lv_aload_n (pc := 5) hx hb dX12_parts_5 rfl (lv_at hl 0 rfl) ?_
  refine lv_iload_n (pc := 6) hx hb dX12_parts_6 rfl (lv_at hl 1 rfl) ?_
  obtain ⟨r_7, hc_7, hf⟩ := bd1 hf
  refine r_dalVi (pc := 7) (ws' := (wX12_parts0 E h h_tape h_far h_from h_real h_other h_kept h_set h_book h_noteSort h_whose h_what h_noteIs h_fitting h_dawn h_likes h_walked h_came 0 v_trouble v_where v_read v_taped v_size v_at v_sort v_place v_sign v_number v_fault v_wrongAt v_word v_marks v_notes)) (As := [.int p0]) (rest := []) C (ctX12_isSetting0 l E h h_tape h_far h_from h_real h_other h_kept h_set h_real h_book h_noteSort h_whose h_what h_noteIs h_fitting h_dawn h_likes h_walked h_came 0 v_trouble v_where v_read v_taped v_size v_at v_sort v_place v_sign v_number v_fault v_wrongAt v_word v_marks v_notes N p0 r_7 hc_7) ml_X12_412 ⟨Nat.le_of_ble_eq_true rfl, Nat.le_of_ble_eq_true rfl⟩ hP hD hS 0 rfl rfl rfl [0] [1] 1 rfl rfl rfl rfl rfl rfl rfl hl.1 rfl (Nat.le_of_ble_eq_true rfl) ⟨Nat.zero_le _, Nat.zero_le _⟩ dX12_parts_7 ?_
  clear hP hD hS; intro H locs hP hD hS
  refine lv_if_ne (pc := 10) (tgt := 19) hx hb dX12_parts_10 (by decide) (fun c_10 => ?_) (fun c_10 => ?_)
  · replace hf := it_f c_10 hf
    refine lv_aload_n (pc := 19) hx hb dX12_parts_19 rfl (lv_at hl 0 rfl) ?_
    refine lv_iconst (pc := 20) (v := 3) hx hb dX12_parts_20 (by decide) ?_
    cases hf
  · replace hf := it_t c_10 hf
    refine lv_aload_n (pc := 13) hx hb dX12_parts_13 rfl (lv_at hl 0 rfl) ?_
    refine lv_iconst (pc := 14) (v := 1) hx hb dX12_parts_14 (by decide) ?_
    obtain ⟨r_15, v_trouble_15, v_where_15, hc_15, hf⟩ := bd3 hf
    refine r_dalVi (pc := 15) (ws' := (wX12_parts0 E h h_tape h_far h_from h_real h_other h_kept h_set h_book h_noteSort h_whose h_what h_noteIs h_fitting h_dawn h_likes h_walked h_came 0 v_trouble_15 v_where_15 v_read v_taped v_size v_at v_sort v_place v_sign v_number v_fault v_wrongAt v_word v_marks v_notes)) (As := [.int 1]) (rest := []) C (ctX12_refused l E h h_tape h_far h_from h_real h_other h_kept h_set h_real h_book h_noteSort h_whose h_what h_noteIs h_fitting h_dawn h_likes h_walked h_came 0 v_trouble v_where none v_read v_taped v_size v_at v_sort v_place v_sign v_number v_fault v_wrongAt v_word v_marks v_notes N 1 (r_15, v_trouble_15, v_where_15) hc_15) ml_X12_77 ⟨Nat.le_of_ble_eq_true rfl, Nat.le_of_ble_eq_true rfl⟩ hP hD hS 0 rfl rfl rfl [0] [1] 1 rfl rfl rfl rfl rfl rfl rfl hl.1 rfl (Nat.le_of_ble_eq_true rfl) ⟨Nat.zero_le _, Nat.zero_le _⟩ dX12_parts_15 ?_
    clear hP hD hS; intro H locs hP hD hS
    cases hf
    rw [hQ]
    exact r_iret C hr hP hD hS rfl dX12_parts_18
def wX12_best (E : EN) (h h_inn h_tape h_far h_from h_real h_other h_kept h_set h_book h_noteSort h_whose h_what h_noteIs h_fitting h_dawn h_likes h_walked h_came h_inn_creak h_inn_doorA h_inn_doorB h_inn_how h_inn_lies h_inn_isCold h_inn_falls h_inn_isFull h_inn_isTold h_inn_act h_inn_what h_inn_then h_inn_met h_inn_bed h_inn_dream h_inn_listens h_inn_name h_inn_nameSort h_inn_nameNumber : Nat) (v_thrown : Int32) (v_trouble : Int32) (v_where : Int32) (v_read : Option Nat) (v_taped : Int32) (v_size : Int32) (v_at : Int32) (v_sort : Int32) (v_place : Int32) (v_sign : Int32) (v_number : Int32) (v_fault : Int32) (v_wrongAt : Int32) (v_word : Int64) (v_marks : Int32) (v_notes : Int32) (v_inn_minutes : Int32) (v_inn_rooms : Int32) (v_inn_doors : Int32) (v_inn_things : Int32) (v_inn_dreams : Int32) (v_inn_sleepers : Int32) (v_inn_listeners : Int32) (v_inn_names : Int32) (v_other : Nat → Int32) (v_inn_how : Nat → Int32) (v_inn_lies : Nat → Int32) (v_inn_isFull : Nat → Int32) (v_inn_bed : Nat → Int32) (v_inn_isTold : Nat → Int32) (v_inn_act : Nat → Int32) (v_inn_then : Nat → Int32) (v_inn_what : Nat → Int32) (v_inn_doorA : Nat → Int32) (v_inn_doorB : Nat → Int32) (v_from : Nat → Int32) (v_inn_falls : Nat → Int32) (v_inn_creak : Nat → Int32) (v_inn_listens : Nat → Int32) (v_far : Nat → Int32) (v_inn_isCold : Nat → Int32) (v_inn_met : Nat → Int32) (v_fitting : Nat → Int32) (v_book : Nat → Int32) (v_noteSort : Nat → Int32) (v_whose : Nat → Int32) (v_what : Nat → Int32) (v_noteIs : Nat → Int32) (v_dawn : Nat → Int32) : va_W := [(h, .inr (11, [.int v_thrown, .int v_trouble, .int v_where, .ref h_inn, va_rf v_read, .ref h_tape, .int v_taped, .int v_size, .int v_at, .int v_sort, .int v_place, .int v_sign, .int v_number, .int v_fault, .int v_wrongAt, .long v_word, .ref h_far, .ref h_from, .ref h_real, .ref h_other, .ref h_kept, .ref h_set, .ref h_real, .int v_marks, .int v_notes, .ref h_book, .ref h_noteSort, .ref h_whose, .ref h_what, .ref h_noteIs, .ref h_fitting, .ref h_dawn, .ref h_likes, .ref h_walked, .ref h_came])), (h_inn, .inr (10, [.int v_inn_minutes, .int v_inn_rooms, .int v_inn_doors, .int v_inn_things, .int v_inn_dreams, .int v_inn_sleepers, .int v_inn_listeners, .int v_inn_names, .ref h_inn_creak, .ref h_inn_doorA, .ref h_inn_doorB, .ref h_inn_how, .ref h_inn_lies, .ref h_inn_isCold, .ref h_inn_falls, .ref h_inn_isFull, .ref h_inn_isTold, .ref h_inn_act, .ref h_inn_what, .ref h_inn_then, .ref h_inn_met, .ref h_inn_bed, .ref h_inn_dream, .ref h_inn_listens, .ref h_inn_name, .ref h_inn_nameSort, .ref h_inn_nameNumber])), (h_other, aI E 51 v_other), (h_inn_how, aI E 10 v_inn_how), (h_inn_lies, aI E 4 v_inn_lies), (h_inn_isFull, aZ E 4 v_inn_isFull), (h_inn_bed, aI E 3 v_inn_bed), (h_inn_isTold, aZ E 16 v_inn_isTold), (h_inn_act, aI E 16 v_inn_act), (h_inn_then, aI E 16 v_inn_then), (h_inn_what, aI E 16 v_inn_what), (h_inn_doorA, aI E 10 v_inn_doorA), (h_inn_doorB, aI E 10 v_inn_doorB), (h_from, aI E 8 v_from), (h_inn_falls, aZ E 10 v_inn_falls), (h_inn_creak, aI E 8 v_inn_creak), (h_inn_listens, aI E 3 v_inn_listens), (h_far, aI E 64 v_far), (h_inn_isCold, aZ E 8 v_inn_isCold), (h_inn_met, aI E 16 v_inn_met), (h_fitting, aI E 64 v_fitting), (h_book, aI E 20 v_book), (h_noteSort, aI E 20 v_noteSort), (h_whose, aI E 20 v_whose), (h_what, aI E 20 v_what), (h_noteIs, aZ E 20 v_noteIs), (h_dawn, aI E 3840 v_dawn)]
def BX12_best_42 (N : Nat) (v_inn_doors : Int32) (v_fitting_20 : Nat → Int32) (r_20 : Int32) (v_inn_minutes : Int32) (v_inn_rooms : Int32) (v_inn_things : Int32) (v_inn_dreams : Int32) (v_inn_sleepers : Int32) (v_inn_listeners : Int32) (v_inn_how : Nat → Int32) (v_inn_lies : Nat → Int32) (v_inn_isFull : Nat → Int32) (v_inn_bed : Nat → Int32) (v_inn_isTold : Nat → Int32) (v_inn_act : Nat → Int32) (v_inn_then : Nat → Int32) (v_inn_what : Nat → Int32) (v_inn_doorA : Nat → Int32) (v_inn_doorB : Nat → Int32) (v_inn_falls : Nat → Int32) (v_inn_creak : Nat → Int32) (v_inn_listens : Nat → Int32) (v_far : Nat → Int32) (v_inn_isCold : Nat → Int32) (v_inn_met : Nat → Int32) (rec42 : (Int32 × Int32 × Int32 × (Nat → Int32) × (Nat → Int32) × (Nat → Int32)) → Option (Int32 × Int32 × Int32 × Int32 × (Nat → Int32) × (Nat → Int32) × (Nat → Int32) × (Nat → Int32))) : (Int32 × Int32 × Int32 × (Nat → Int32) × (Nat → Int32) × (Nat → Int32)) → Option (Int32 × Int32 × Int32 × Int32 × (Nat → Int32) × (Nat → Int32) × (Nat → Int32) × (Nat → Int32)) := un6 fun (x42_2 : Int32) (x42_3 : Int32) (x42_4 : Int32) (x42_other : Nat → Int32) (x42_from : Nat → Int32) (x42_dawn : Nat → Int32) => (fX12_settings N v_inn_doors).bind (un1 fun (r_45 : Int32) => if r_45 ≤ x42_4 then ((fX12_good N x42_2).bind (un3 fun (r_90 : Int32) (v_trouble_90 : Int32) (v_where_90 : Int32) => some (r_90, 0, v_trouble_90, v_where_90, x42_other, x42_from, v_fitting_20, x42_dawn))) else ((fX12_mostAlike N r_20 x42_4 x42_4 x42_dawn v_fitting_20 v_inn_minutes v_inn_rooms v_inn_doors v_inn_things v_inn_dreams v_inn_sleepers v_inn_listeners x42_other v_inn_how v_inn_lies v_inn_isFull v_inn_bed v_inn_isTold v_inn_act v_inn_then v_inn_what v_inn_doorA v_inn_doorB x42_from v_inn_falls v_inn_creak v_inn_listens v_far v_inn_isCold v_inn_met).bind (un4 fun (r_57 : Int32) (v_dawn_57 : Nat → Int32) (v_other_57 : Nat → Int32) (v_from_57 : Nat → Int32) => jn (un2 fun (x82_2 : Int32) (x82_3 : Int32) => rec42 (x82_2, x82_3, x42_4 + 1, v_other_57, v_from_57, v_dawn_57)) (fun j82 => jn (un0 (j82 (x42_4, r_57))) (fun j76 => if x42_2 = (-1) then (j76 ()) else (if r_57 < x42_3 then (j76 ()) else (j82 (x42_2, x42_3))))))))
def fX12_best (N : Nat) (v_notes : Int32) (v_inn_minutes : Int32) (v_inn_rooms : Int32) (v_inn_doors : Int32) (v_inn_things : Int32) (v_inn_dreams : Int32) (v_inn_sleepers : Int32) (v_inn_listeners : Int32) (v_other : Nat → Int32) (v_inn_how : Nat → Int32) (v_inn_lies : Nat → Int32) (v_inn_isFull : Nat → Int32) (v_inn_bed : Nat → Int32) (v_inn_isTold : Nat → Int32) (v_inn_act : Nat → Int32) (v_inn_then : Nat → Int32) (v_inn_what : Nat → Int32) (v_inn_doorA : Nat → Int32) (v_inn_doorB : Nat → Int32) (v_from : Nat → Int32) (v_inn_falls : Nat → Int32) (v_inn_creak : Nat → Int32) (v_inn_listens : Nat → Int32) (v_far : Nat → Int32) (v_inn_isCold : Nat → Int32) (v_inn_met : Nat → Int32) (v_fitting : Nat → Int32) (v_book : Nat → Int32) (v_noteSort : Nat → Int32) (v_whose : Nat → Int32) (v_what : Nat → Int32) (v_noteIs : Nat → Int32) (v_dawn : Nat → Int32) : Option (Int32 × Int32 × Int32 × Int32 × (Nat → Int32) × (Nat → Int32) × (Nat → Int32) × (Nat → Int32)) := (fX12_fitsBy N 3 v_notes v_inn_minutes v_inn_rooms v_inn_doors v_inn_things v_inn_dreams v_inn_sleepers v_inn_listeners v_other v_inn_how v_inn_lies v_inn_isFull v_inn_bed v_inn_isTold v_inn_act v_inn_then v_inn_what v_inn_doorA v_inn_doorB v_from v_inn_falls v_inn_creak v_inn_listens v_far v_inn_isCold v_inn_met v_fitting v_book v_noteSort v_whose v_what v_noteIs).bind (un4 fun (r_20 : Int32) (v_other_20 : Nat → Int32) (v_from_20 : Nat → Int32) (v_fitting_20 : Nat → Int32) => if r_20 = 0 then ((fX12_refused N 6).bind (un3 fun (r_31 : Int32) (v_trouble_31 : Int32) (v_where_31 : Int32) => some (r_31, 0, v_trouble_31, v_where_31, v_other_20, v_from_20, v_fitting_20, v_dawn))) else (lp (BX12_best_42 N v_inn_doors v_fitting_20 r_20 v_inn_minutes v_inn_rooms v_inn_things v_inn_dreams v_inn_sleepers v_inn_listeners v_inn_how v_inn_lies v_inn_isFull v_inn_bed v_inn_isTold v_inn_act v_inn_then v_inn_what v_inn_doorA v_inn_doorB v_inn_falls v_inn_creak v_inn_listens v_far v_inn_isCold v_inn_met) N ((-1), 0, 0, v_other_20, v_from_20, v_dawn)))
set_option maxHeartbeats 4000000 in
set_option maxRecDepth 100000 in
theorem ctX12_best (l : Launch) (E : EN) (h h_inn h_tape h_far h_from h_real h_other h_kept h_set h_book h_noteSort h_whose h_what h_noteIs h_fitting h_dawn h_likes h_walked h_came h_inn_creak h_inn_doorA h_inn_doorB h_inn_how h_inn_lies h_inn_isCold h_inn_falls h_inn_isFull h_inn_isTold h_inn_act h_inn_what h_inn_then h_inn_met h_inn_bed h_inn_dream h_inn_listens h_inn_name h_inn_nameSort h_inn_nameNumber : Nat) (v_thrown : Int32) (v_trouble : Int32) (v_where : Int32) (v_read : Option Nat) (v_taped : Int32) (v_size : Int32) (v_at : Int32) (v_sort : Int32) (v_place : Int32) (v_sign : Int32) (v_number : Int32) (v_fault : Int32) (v_wrongAt : Int32) (v_word : Int64) (v_marks : Int32) (v_notes : Int32) (v_inn_minutes : Int32) (v_inn_rooms : Int32) (v_inn_doors : Int32) (v_inn_things : Int32) (v_inn_dreams : Int32) (v_inn_sleepers : Int32) (v_inn_listeners : Int32) (v_inn_names : Int32) (v_other : Nat → Int32) (v_inn_how : Nat → Int32) (v_inn_lies : Nat → Int32) (v_inn_isFull : Nat → Int32) (v_inn_bed : Nat → Int32) (v_inn_isTold : Nat → Int32) (v_inn_act : Nat → Int32) (v_inn_then : Nat → Int32) (v_inn_what : Nat → Int32) (v_inn_doorA : Nat → Int32) (v_inn_doorB : Nat → Int32) (v_from : Nat → Int32) (v_inn_falls : Nat → Int32) (v_inn_creak : Nat → Int32) (v_inn_listens : Nat → Int32) (v_far : Nat → Int32) (v_inn_isCold : Nat → Int32) (v_inn_met : Nat → Int32) (v_fitting : Nat → Int32) (v_book : Nat → Int32) (v_noteSort : Nat → Int32) (v_whose : Nat → Int32) (v_what : Nat → Int32) (v_noteIs : Nat → Int32) (v_dawn : Nat → Int32) (N : Nat) (z : Int32 × Int32 × Int32 × Int32 × (Nat → Int32) × (Nat → Int32) × (Nat → Int32) × (Nat → Int32)) (hf : fX12_best N v_notes v_inn_minutes v_inn_rooms v_inn_doors v_inn_things v_inn_dreams v_inn_sleepers v_inn_listeners v_other v_inn_how v_inn_lies v_inn_isFull v_inn_bed v_inn_isTold v_inn_act v_inn_then v_inn_what v_inn_doorA v_inn_doorB v_from v_inn_falls v_inn_creak v_inn_listens v_far v_inn_isCold v_inn_met v_fitting v_book v_noteSort v_whose v_what v_noteIs v_dawn = some z) : CTi l E yX12_best cX12_best 6 .int 9 212 [.ref h] (wX12_best E h h_inn h_tape h_far h_from h_real h_other h_kept h_set h_book h_noteSort h_whose h_what h_noteIs h_fitting h_dawn h_likes h_walked h_came h_inn_creak h_inn_doorA h_inn_doorB h_inn_how h_inn_lies h_inn_isCold h_inn_falls h_inn_isFull h_inn_isTold h_inn_act h_inn_what h_inn_then h_inn_met h_inn_bed h_inn_dream h_inn_listens h_inn_name h_inn_nameSort h_inn_nameNumber v_thrown v_trouble v_where v_read v_taped v_size v_at v_sort v_place v_sign v_number v_fault v_wrongAt v_word v_marks v_notes v_inn_minutes v_inn_rooms v_inn_doors v_inn_things v_inn_dreams v_inn_sleepers v_inn_listeners v_inn_names v_other v_inn_how v_inn_lies v_inn_isFull v_inn_bed v_inn_isTold v_inn_act v_inn_then v_inn_what v_inn_doorA v_inn_doorB v_from v_inn_falls v_inn_creak v_inn_listens v_far v_inn_isCold v_inn_met v_fitting v_book v_noteSort v_whose v_what v_noteIs v_dawn) (z.1) (wX12_best E h h_inn h_tape h_far h_from h_real h_other h_kept h_set h_book h_noteSort h_whose h_what h_noteIs h_fitting h_dawn h_likes h_walked h_came h_inn_creak h_inn_doorA h_inn_doorB h_inn_how h_inn_lies h_inn_isCold h_inn_falls h_inn_isFull h_inn_isTold h_inn_act h_inn_what h_inn_then h_inn_met h_inn_bed h_inn_dream h_inn_listens h_inn_name h_inn_nameSort h_inn_nameNumber z.2.1 z.2.2.1 z.2.2.2.1 v_read v_taped v_size v_at v_sort v_place v_sign v_number v_fault v_wrongAt v_word v_marks v_notes v_inn_minutes v_inn_rooms v_inn_doors v_inn_things v_inn_dreams v_inn_sleepers v_inn_listeners v_inn_names z.2.2.2.2.1 v_inn_how v_inn_lies v_inn_isFull v_inn_bed v_inn_isTold v_inn_act v_inn_then v_inn_what v_inn_doorA v_inn_doorB z.2.2.2.2.2.1 v_inn_falls v_inn_creak v_inn_listens v_far v_inn_isCold v_inn_met z.2.2.2.2.2.2.1 v_book v_noteSort v_whose v_what v_noteIs z.2.2.2.2.2.2.2) := by
  intro sz
  refine ct_body (by decide) (Nat.le_of_ble_eq_true rfl) ?_
  intro p e s m args below meth c A ls hAe C hr hin hP hD hS hl
  have C : CX p s m args meth c cX12_best RX12 6 E A := C
  have hl : lv_has ls 6 [(0, .ref h)] := hl
  have hx := C.1
  have hb := C.2.1
  rw [hAe]
  clear hAe
  obtain ⟨Q, hQ⟩ : ∃ Q, Q = MQ below (Qi E A (z.1) (wX12_best E h h_inn h_tape h_far h_from h_real h_other h_kept h_set h_book h_noteSort h_whose h_what h_noteIs h_fitting h_dawn h_likes h_walked h_came h_inn_creak h_inn_doorA h_inn_doorB h_inn_how h_inn_lies h_inn_isCold h_inn_falls h_inn_isFull h_inn_isTold h_inn_act h_inn_what h_inn_then h_inn_met h_inn_bed h_inn_dream h_inn_listens h_inn_name h_inn_nameSort h_inn_nameNumber z.2.1 z.2.2.1 z.2.2.2.1 v_read v_taped v_size v_at v_sort v_place v_sign v_number v_fault v_wrongAt v_word v_marks v_notes v_inn_minutes v_inn_rooms v_inn_doors v_inn_things v_inn_dreams v_inn_sleepers v_inn_listeners v_inn_names z.2.2.2.2.1 v_inn_how v_inn_lies v_inn_isFull v_inn_bed v_inn_isTold v_inn_act v_inn_then v_inn_what v_inn_doorA v_inn_doorB z.2.2.2.2.2.1 v_inn_falls v_inn_creak v_inn_listens v_far v_inn_isCold v_inn_met z.2.2.2.2.2.2.1 v_book v_noteSort v_whose v_what v_noteIs z.2.2.2.2.2.2.2)) args s 0 0 A := ⟨_, rfl⟩
  rw [← hQ]
  unfold fX12_best at hf
  refine lv_aload_n (pc := 0) hx hb dX12_best_0 rfl (lv_at hl 0 rfl) ?_
  refine lv_iconst (pc := 1) (v := 0) hx hb dX12_best_1 (by decide) ?_
  refine r_put (pc := 2) (ws' := (wX12_best E h h_inn h_tape h_far h_from h_real h_other h_kept h_set h_book h_noteSort h_whose h_what h_noteIs h_fitting h_dawn h_likes h_walked h_came h_inn_creak h_inn_doorA h_inn_doorB h_inn_how h_inn_lies h_inn_isCold h_inn_falls h_inn_isFull h_inn_isTold h_inn_act h_inn_what h_inn_then h_inn_met h_inn_bed h_inn_dream h_inn_listens h_inn_name h_inn_nameSort h_inn_nameNumber 0 v_trouble v_where v_read v_taped v_size v_at v_sort v_place v_sign v_number v_fault v_wrongAt v_word v_marks v_notes v_inn_minutes v_inn_rooms v_inn_doors v_inn_things v_inn_dreams v_inn_sleepers v_inn_listeners v_inn_names v_other v_inn_how v_inn_lies v_inn_isFull v_inn_bed v_inn_isTold v_inn_act v_inn_then v_inn_what v_inn_doorA v_inn_doorB v_from v_inn_falls v_inn_creak v_inn_listens v_far v_inn_isCold v_inn_met v_fitting v_book v_noteSort v_whose v_what v_noteIs v_dawn)) C hP hD hS 0 rfl fl_X12_71 rfl rfl (Nat.le_of_ble_eq_true rfl) rfl dX12_best_2 ?_
  clear hP hD hS; intro H locs hP hD hS
  refine lv_aload_n (pc := 5) hx hb dX12_best_5 rfl (lv_at hl 0 rfl) ?_
  refine r_get (pc := 6) C hP 0 rfl fl_X12_358 rfl dX12_best_6 ?_
  refine lv_ifnonnull (pc := 9) (tgt := 18) hx hb dX12_best_9 (by decide) ?_
  refine lv_aload_n (pc := 18) hx hb dX12_best_18 rfl (lv_at hl 0 rfl) ?_
  refine lv_iconst (pc := 19) (v := 3) hx hb dX12_best_19 (by decide) ?_
  obtain ⟨r_20, v_other_20, v_from_20, v_fitting_20, hc_20, hf⟩ := bd4 hf
  refine r_dalVi (pc := 20) (ws' := (wX12_best E h h_inn h_tape h_far h_from h_real h_other h_kept h_set h_book h_noteSort h_whose h_what h_noteIs h_fitting h_dawn h_likes h_walked h_came h_inn_creak h_inn_doorA h_inn_doorB h_inn_how h_inn_lies h_inn_isCold h_inn_falls h_inn_isFull h_inn_isTold h_inn_act h_inn_what h_inn_then h_inn_met h_inn_bed h_inn_dream h_inn_listens h_inn_name h_inn_nameSort h_inn_nameNumber 0 v_trouble v_where v_read v_taped v_size v_at v_sort v_place v_sign v_number v_fault v_wrongAt v_word v_marks v_notes v_inn_minutes v_inn_rooms v_inn_doors v_inn_things v_inn_dreams v_inn_sleepers v_inn_listeners v_inn_names v_other_20 v_inn_how v_inn_lies v_inn_isFull v_inn_bed v_inn_isTold v_inn_act v_inn_then v_inn_what v_inn_doorA v_inn_doorB v_from_20 v_inn_falls v_inn_creak v_inn_listens v_far v_inn_isCold v_inn_met v_fitting_20 v_book v_noteSort v_whose v_what v_noteIs v_dawn)) (As := [.int 3]) (rest := []) C (ctX12_fitsBy l E h h_inn h_tape h_far h_from h_real h_other h_kept h_set h_book h_noteSort h_whose h_what h_noteIs h_fitting h_dawn h_likes h_walked h_came h_inn_creak h_inn_doorA h_inn_doorB h_inn_how h_inn_lies h_inn_isCold h_inn_falls h_inn_isFull h_inn_isTold h_inn_act h_inn_what h_inn_then h_inn_met h_inn_bed h_inn_dream h_inn_listens h_inn_name h_inn_nameSort h_inn_nameNumber 0 v_trouble v_where v_read v_taped v_size v_at v_sort v_place v_sign v_number v_fault v_wrongAt v_word v_marks v_notes v_inn_minutes v_inn_rooms v_inn_doors v_inn_things v_inn_dreams v_inn_sleepers v_inn_listeners v_inn_names v_other v_inn_how v_inn_lies v_inn_isFull v_inn_bed v_inn_isTold v_inn_act v_inn_then v_inn_what v_inn_doorA v_inn_doorB v_from v_inn_falls v_inn_creak v_inn_listens v_far v_inn_isCold v_inn_met v_fitting v_book v_noteSort v_whose v_what v_noteIs N 3 (r_20, v_other_20, v_from_20, v_fitting_20) hc_20) ml_X12_464 ⟨Nat.le_of_ble_eq_true rfl, Nat.le_of_ble_eq_true rfl⟩ hP hD hS 0 rfl rfl rfl [0, 1, 2, 3, 4, 5, 6, 7, 8, 9, 10, 11, 12, 13, 14, 15, 16, 17, 18, 19, 20, 21, 22, 23, 24, 25] [27, 28, 29, 30, 31, 32, 33, 34, 35, 36, 37, 38, 39, 40, 41, 42, 43, 44, 45, 46, 47, 48, 49, 50, 51, 52, 26] 27 rfl rfl rfl rfl rfl rfl rfl hl.1 rfl (Nat.le_of_ble_eq_true rfl) ⟨Nat.zero_le _, Nat.zero_le _⟩ dX12_best_20 ?_
  clear hP hD hS; intro H locs hP hD hS
  refine lv_istore_n (pc := 23) (lv' := [(1, .int r_20), (0, .ref h)]) hx hb dX12_best_23 rfl hl (by decide) rfl (fun ls hl => ?_)
  refine lv_iload_n (pc := 24) hx hb dX12_best_24 rfl (lv_at hl 0 rfl) ?_
  refine lv_if_ne (pc := 25) (tgt := 35) hx hb dX12_best_25 (by decide) (fun c_25 => ?_) (fun c_25 => ?_)
  · replace hf := it_f c_25 hf
    refine lv_iconst (pc := 35) (v := (-1)) hx hb dX12_best_35 (by decide) ?_
    refine lv_istore_n (pc := 36) (lv' := [(2, .int (-1)), (1, .int r_20), (0, .ref h)]) hx hb dX12_best_36 rfl hl (by decide) rfl (fun ls hl => ?_)
    refine lv_iconst (pc := 37) (v := 0) hx hb dX12_best_37 (by decide) ?_
    refine lv_istore_n (pc := 38) (lv' := [(3, .int 0), (2, .int (-1)), (1, .int r_20), (0, .ref h)]) hx hb dX12_best_38 rfl hl (by decide) rfl (fun ls hl => ?_)
    refine lv_iconst (pc := 39) (v := 0) hx hb dX12_best_39 (by decide) ?_
    refine lv_istore (pc := 40) (lv' := [(4, .int 0), (3, .int 0), (2, .int (-1)), (1, .int r_20), (0, .ref h)]) hx hb dX12_best_40 hl (by decide) rfl (fun ls hl => ?_)
    have key42 : ∀ (n : Nat) (x42_2 : Int32) (x42_3 : Int32) (x42_4 : Int32) (x42_other : Nat → Int32) (x42_from : Nat → Int32) (x42_dawn : Nat → Int32) , lp (BX12_best_42 N v_inn_doors v_fitting_20 r_20 v_inn_minutes v_inn_rooms v_inn_things v_inn_dreams v_inn_sleepers v_inn_listeners v_inn_how v_inn_lies v_inn_isFull v_inn_bed v_inn_isTold v_inn_act v_inn_then v_inn_what v_inn_doorA v_inn_doorB v_inn_falls v_inn_creak v_inn_listens v_far v_inn_isCold v_inn_met) n (x42_2, x42_3, x42_4, x42_other, x42_from, x42_dawn) = some z → AT p l e (rmOf 9 212) s m args below meth c E A Q 0 0 6 [(0, .ref h), (1, .int r_20), (2, .int x42_2), (3, .int x42_3), (4, .int x42_4)] (wX12_best E h h_inn h_tape h_far h_from h_real h_other h_kept h_set h_book h_noteSort h_whose h_what h_noteIs h_fitting h_dawn h_likes h_walked h_came h_inn_creak h_inn_doorA h_inn_doorB h_inn_how h_inn_lies h_inn_isCold h_inn_falls h_inn_isFull h_inn_isTold h_inn_act h_inn_what h_inn_then h_inn_met h_inn_bed h_inn_dream h_inn_listens h_inn_name h_inn_nameSort h_inn_nameNumber 0 v_trouble v_where v_read v_taped v_size v_at v_sort v_place v_sign v_number v_fault v_wrongAt v_word v_marks v_notes v_inn_minutes v_inn_rooms v_inn_doors v_inn_things v_inn_dreams v_inn_sleepers v_inn_listeners v_inn_names x42_other v_inn_how v_inn_lies v_inn_isFull v_inn_bed v_inn_isTold v_inn_act v_inn_then v_inn_what v_inn_doorA v_inn_doorB x42_from v_inn_falls v_inn_creak v_inn_listens v_far v_inn_isCold v_inn_met v_fitting_20 v_book v_noteSort v_whose v_what v_noteIs x42_dawn) 42 [] := by
      intro n
      induction n with
      | zero => intro x42_2 x42_3 x42_4 x42_other x42_from x42_dawn hf; exact (lp_0 hf).elim
      | succ n ih42 =>
        intro x42_2 x42_3 x42_4 x42_other x42_from x42_dawn hf H locs ls hl hP hD hS
        replace hf := lp_s hf
        generalize lp (BX12_best_42 N v_inn_doors v_fitting_20 r_20 v_inn_minutes v_inn_rooms v_inn_things v_inn_dreams v_inn_sleepers v_inn_listeners v_inn_how v_inn_lies v_inn_isFull v_inn_bed v_inn_isTold v_inn_act v_inn_then v_inn_what v_inn_doorA v_inn_doorB v_inn_falls v_inn_creak v_inn_listens v_far v_inn_isCold v_inn_met) n = rec42 at ih42 hf
        unfold BX12_best_42 at hf
        replace hf := un6_s hf
        refine lv_iload (pc := 42) hx hb dX12_best_42 (lv_at hl 4 rfl) ?_
        refine lv_aload_n (pc := 44) hx hb dX12_best_44 rfl (lv_at hl 0 rfl) ?_
        obtain ⟨r_45, hc_45, hf⟩ := bd1 hf
        refine r_dalVi (pc := 45) (ws' := (wX12_best E h h_inn h_tape h_far h_from h_real h_other h_kept h_set h_book h_noteSort h_whose h_what h_noteIs h_fitting h_dawn h_likes h_walked h_came h_inn_creak h_inn_doorA h_inn_doorB h_inn_how h_inn_lies h_inn_isCold h_inn_falls h_inn_isFull h_inn_isTold h_inn_act h_inn_what h_inn_then h_inn_met h_inn_bed h_inn_dream h_inn_listens h_inn_name h_inn_nameSort h_inn_nameNumber 0 v_trouble v_where v_read v_taped v_size v_at v_sort v_place v_sign v_number v_fault v_wrongAt v_word v_marks v_notes v_inn_minutes v_inn_rooms v_inn_doors v_inn_things v_inn_dreams v_inn_sleepers v_inn_listeners v_inn_names x42_other v_inn_how v_inn_lies v_inn_isFull v_inn_bed v_inn_isTold v_inn_act v_inn_then v_inn_what v_inn_doorA v_inn_doorB x42_from v_inn_falls v_inn_creak v_inn_listens v_far v_inn_isCold v_inn_met v_fitting_20 v_book v_noteSort v_whose v_what v_noteIs x42_dawn)) (As := []) (rest := [.int x42_4]) C (ctX12_settings l E h h_inn h_tape h_far h_from h_real h_other h_kept h_set h_real h_book h_noteSort h_whose h_what h_noteIs h_fitting h_dawn h_likes h_walked h_came h_inn_creak h_inn_doorA h_inn_doorB h_inn_how h_inn_lies h_inn_isCold h_inn_falls h_inn_isFull h_inn_isTold h_inn_act h_inn_what h_inn_then h_inn_met h_inn_bed h_inn_dream h_inn_listens h_inn_name h_inn_nameSort h_inn_nameNumber 0 v_trouble v_where v_read v_taped v_size v_at v_sort v_place v_sign v_number v_fault v_wrongAt v_word v_marks v_notes v_inn_minutes v_inn_rooms v_inn_doors v_inn_things v_inn_dreams v_inn_sleepers v_inn_listeners v_inn_names N r_45 hc_45) ml_X12_385 ⟨Nat.le_of_ble_eq_true rfl, Nat.le_of_ble_eq_true rfl⟩ hP hD hS 0 rfl rfl rfl [0, 1] [27, 28, 2, 3, 4, 5, 6, 7, 8, 9, 10, 11, 12, 13, 14, 15, 16, 17, 18, 19, 20, 21, 22, 23, 24, 25, 26] 27 rfl rfl rfl rfl rfl rfl rfl hl.1 rfl (Nat.le_of_ble_eq_true rfl) ⟨Nat.zero_le _, Nat.zero_le _⟩ dX12_best_45 ?_
        clear hP hD hS; intro H locs hP hD hS
        refine lv_icmp_ge (pc := 48) (tgt := 88) hx hb dX12_best_48 (by decide) (fun c_48 => ?_) (fun c_48 => ?_)
        · replace hf := it_t c_48 hf
          refine lv_aload_n (pc := 88) hx hb dX12_best_88 rfl (lv_at hl 0 rfl) ?_
          refine lv_iload_n (pc := 89) hx hb dX12_best_89 rfl (lv_at hl 2 rfl) ?_
          obtain ⟨r_90, v_trouble_90, v_where_90, hc_90, hf⟩ := bd3 hf
          refine r_dalVi (pc := 90) (ws' := (wX12_best E h h_inn h_tape h_far h_from h_real h_other h_kept h_set h_book h_noteSort h_whose h_what h_noteIs h_fitting h_dawn h_likes h_walked h_came h_inn_creak h_inn_doorA h_inn_doorB h_inn_how h_inn_lies h_inn_isCold h_inn_falls h_inn_isFull h_inn_isTold h_inn_act h_inn_what h_inn_then h_inn_met h_inn_bed h_inn_dream h_inn_listens h_inn_name h_inn_nameSort h_inn_nameNumber 0 v_trouble_90 v_where_90 v_read v_taped v_size v_at v_sort v_place v_sign v_number v_fault v_wrongAt v_word v_marks v_notes v_inn_minutes v_inn_rooms v_inn_doors v_inn_things v_inn_dreams v_inn_sleepers v_inn_listeners v_inn_names x42_other v_inn_how v_inn_lies v_inn_isFull v_inn_bed v_inn_isTold v_inn_act v_inn_then v_inn_what v_inn_doorA v_inn_doorB x42_from v_inn_falls v_inn_creak v_inn_listens v_far v_inn_isCold v_inn_met v_fitting_20 v_book v_noteSort v_whose v_what v_noteIs x42_dawn)) (As := [.int x42_2]) (rest := []) C (ctX12_good l E h h_tape h_far h_from h_real h_other h_kept h_set h_real h_book h_noteSort h_whose h_what h_noteIs h_fitting h_dawn h_likes h_walked h_came 0 v_trouble v_where (some h_inn) v_read v_taped v_size v_at v_sort v_place v_sign v_number v_fault v_wrongAt v_word v_marks v_notes N x42_2 (r_90, v_trouble_90, v_where_90) hc_90) ml_X12_81 ⟨Nat.le_of_ble_eq_true rfl, Nat.le_of_ble_eq_true rfl⟩ hP hD hS 0 rfl rfl rfl [0] [27, 1, 2, 3, 4, 5, 6, 7, 8, 9, 10, 11, 12, 13, 14, 15, 16, 17, 18, 19, 20, 21, 22, 23, 24, 25, 26] 27 rfl rfl rfl rfl rfl rfl rfl hl.1 rfl (Nat.le_of_ble_eq_true rfl) ⟨Nat.zero_le _, Nat.zero_le _⟩ dX12_best_90 ?_
          clear hP hD hS; intro H locs hP hD hS
          cases hf
          rw [hQ]
          exact r_iret C hr hP hD hS rfl dX12_best_93
        · replace hf := it_f c_48 hf
          refine lv_aload_n (pc := 51) hx hb dX12_best_51 rfl (lv_at hl 0 rfl) ?_
          refine lv_iload_n (pc := 52) hx hb dX12_best_52 rfl (lv_at hl 1 rfl) ?_
          refine lv_iload (pc := 53) hx hb dX12_best_53 (lv_at hl 4 rfl) ?_
          refine lv_iload (pc := 55) hx hb dX12_best_55 (lv_at hl 4 rfl) ?_
          obtain ⟨r_57, v_dawn_57, v_other_57, v_from_57, hc_57, hf⟩ := bd4 hf
          refine r_dalVi (pc := 57) (ws' := (wX12_best E h h_inn h_tape h_far h_from h_real h_other h_kept h_set h_book h_noteSort h_whose h_what h_noteIs h_fitting h_dawn h_likes h_walked h_came h_inn_creak h_inn_doorA h_inn_doorB h_inn_how h_inn_lies h_inn_isCold h_inn_falls h_inn_isFull h_inn_isTold h_inn_act h_inn_what h_inn_then h_inn_met h_inn_bed h_inn_dream h_inn_listens h_inn_name h_inn_nameSort h_inn_nameNumber 0 v_trouble v_where v_read v_taped v_size v_at v_sort v_place v_sign v_number v_fault v_wrongAt v_word v_marks v_notes v_inn_minutes v_inn_rooms v_inn_doors v_inn_things v_inn_dreams v_inn_sleepers v_inn_listeners v_inn_names v_other_57 v_inn_how v_inn_lies v_inn_isFull v_inn_bed v_inn_isTold v_inn_act v_inn_then v_inn_what v_inn_doorA v_inn_doorB v_from_57 v_inn_falls v_inn_creak v_inn_listens v_far v_inn_isCold v_inn_met v_fitting_20 v_book v_noteSort v_whose v_what v_noteIs v_dawn_57)) (As := [.int r_20, .int x42_4, .int x42_4]) (rest := []) C (ctX12_mostAlike l E h h_inn h_tape h_far h_from h_real h_other h_kept h_set h_book h_noteSort h_whose h_what h_noteIs h_fitting h_dawn h_likes h_walked h_came h_inn_creak h_inn_doorA h_inn_doorB h_inn_how h_inn_lies h_inn_isCold h_inn_falls h_inn_isFull h_inn_isTold h_inn_act h_inn_what h_inn_then h_inn_met h_inn_bed h_inn_dream h_inn_listens h_inn_name h_inn_nameSort h_inn_nameNumber 0 v_trouble v_where v_read v_taped v_size v_at v_sort v_place v_sign v_number v_fault v_wrongAt v_word v_marks v_notes x42_dawn v_fitting_20 v_inn_minutes v_inn_rooms v_inn_doors v_inn_things v_inn_dreams v_inn_sleepers v_inn_listeners v_inn_names x42_other v_inn_how v_inn_lies v_inn_isFull v_inn_bed v_inn_isTold v_inn_act v_inn_then v_inn_what v_inn_doorA v_inn_doorB x42_from v_inn_falls v_inn_creak v_inn_listens v_far v_inn_isCold v_inn_met N r_20 x42_4 x42_4 (r_57, v_dawn_57, v_other_57, v_from_57) hc_57) ml_X12_477 ⟨Nat.le_of_ble_eq_true rfl, Nat.le_of_ble_eq_true rfl⟩ hP hD hS 0 rfl rfl rfl [0, 26, 20, 1, 2, 3, 4, 5, 6, 7, 8, 9, 10, 11, 12, 13, 14, 15, 16, 17, 18, 19] [27, 30, 31, 32, 33, 34, 35, 36, 37, 38, 39, 40, 41, 42, 43, 44, 45, 46, 47, 48, 29, 21, 22, 23, 24, 25, 28] 27 rfl rfl rfl rfl rfl rfl rfl hl.1 rfl (Nat.le_of_ble_eq_true rfl) ⟨Nat.zero_le _, Nat.zero_le _⟩ dX12_best_57 ?_
          clear hP hD hS; intro H locs hP hD hS
          refine lv_istore (pc := 60) (lv' := [(5, .int r_57), (0, .ref h), (1, .int r_20), (2, .int x42_2), (3, .int x42_3), (4, .int x42_4)]) hx hb dX12_best_60 hl (by decide) rfl (fun ls hl => ?_)
          refine lv_iload_n (pc := 62) hx hb dX12_best_62 rfl (lv_at hl 3 rfl) ?_
          refine lv_iconst (pc := 63) (v := (-1)) hx hb dX12_best_63 (by decide) ?_
          refine jnK hf (fun j82 ej82 hf => ?_)
          have hj82 : ∀ (x82_2 : Int32) (x82_3 : Int32) , j82 (x82_2, x82_3) = some z → AT p l e (rmOf 9 212) s m args below meth c E A Q 0 0 6 [(0, .ref h), (1, .int r_20), (2, .int x82_2), (3, .int x82_3), (4, .int x42_4)] (wX12_best E h h_inn h_tape h_far h_from h_real h_other h_kept h_set h_book h_noteSort h_whose h_what h_noteIs h_fitting h_dawn h_likes h_walked h_came h_inn_creak h_inn_doorA h_inn_doorB h_inn_how h_inn_lies h_inn_isCold h_inn_falls h_inn_isFull h_inn_isTold h_inn_act h_inn_what h_inn_then h_inn_met h_inn_bed h_inn_dream h_inn_listens h_inn_name h_inn_nameSort h_inn_nameNumber 0 v_trouble v_where v_read v_taped v_size v_at v_sort v_place v_sign v_number v_fault v_wrongAt v_word v_marks v_notes v_inn_minutes v_inn_rooms v_inn_doors v_inn_things v_inn_dreams v_inn_sleepers v_inn_listeners v_inn_names v_other_57 v_inn_how v_inn_lies v_inn_isFull v_inn_bed v_inn_isTold v_inn_act v_inn_then v_inn_what v_inn_doorA v_inn_doorB v_from_57 v_inn_falls v_inn_creak v_inn_listens v_far v_inn_isCold v_inn_met v_fitting_20 v_book v_noteSort v_whose v_what v_noteIs v_dawn_57) 82 [] := by
            intro x82_2 x82_3 hf H locs ls hl hP hD hS
            rw [ej82] at hf
            replace hf := un2_s hf
            refine lv_iinc (pc := 82) (v := x42_4 + 1) (lv' := [(4, .int (x42_4 + 1)), (0, .ref h), (1, .int r_20), (2, .int x82_2), (3, .int x82_3)]) hx hb dX12_best_82 hl (k := 4) rfl rfl (by decide) rfl (fun ls hl => ?_)
            refine lv_goto (pc := 85) (tgt := 42) hx hb dX12_best_85 (by decide) ?_
            exact ih42 x82_2 x82_3 (x42_4 + 1) v_other_57 v_from_57 v_dawn_57 hf _ _ _ (lv_sub hl [1, 2, 3, 4, 0] rfl) hP hD hS
          clear ej82
          refine jnK hf (fun j76 ej76 hf => ?_)
          have hj76 : j76 () = some z → AT p l e (rmOf 9 212) s m args below meth c E A Q 0 0 6 [(0, .ref h), (1, .int r_20), (4, .int x42_4), (5, .int r_57)] (wX12_best E h h_inn h_tape h_far h_from h_real h_other h_kept h_set h_book h_noteSort h_whose h_what h_noteIs h_fitting h_dawn h_likes h_walked h_came h_inn_creak h_inn_doorA h_inn_doorB h_inn_how h_inn_lies h_inn_isCold h_inn_falls h_inn_isFull h_inn_isTold h_inn_act h_inn_what h_inn_then h_inn_met h_inn_bed h_inn_dream h_inn_listens h_inn_name h_inn_nameSort h_inn_nameNumber 0 v_trouble v_where v_read v_taped v_size v_at v_sort v_place v_sign v_number v_fault v_wrongAt v_word v_marks v_notes v_inn_minutes v_inn_rooms v_inn_doors v_inn_things v_inn_dreams v_inn_sleepers v_inn_listeners v_inn_names v_other_57 v_inn_how v_inn_lies v_inn_isFull v_inn_bed v_inn_isTold v_inn_act v_inn_then v_inn_what v_inn_doorA v_inn_doorB v_from_57 v_inn_falls v_inn_creak v_inn_listens v_far v_inn_isCold v_inn_met v_fitting_20 v_book v_noteSort v_whose v_what v_noteIs v_dawn_57) 76 [] := by
            intro  hf H locs ls hl hP hD hS
            rw [ej76] at hf
            replace hf := un0_s hf
            refine lv_iload (pc := 76) hx hb dX12_best_76 (lv_at hl 2 rfl) ?_
            refine lv_istore_n (pc := 78) (lv' := [(2, .int x42_4), (0, .ref h), (1, .int r_20), (4, .int x42_4), (5, .int r_57)]) hx hb dX12_best_78 rfl hl (by decide) rfl (fun ls hl => ?_)
            refine lv_iload (pc := 79) hx hb dX12_best_79 (lv_at hl 4 rfl) ?_
            refine lv_istore_n (pc := 81) (lv' := [(3, .int r_57), (2, .int x42_4), (0, .ref h), (1, .int r_20), (4, .int x42_4), (5, .int r_57)]) hx hb dX12_best_81 rfl hl (by decide) rfl (fun ls hl => ?_)
            exact hj82 x42_4 r_57 hf _ _ _ (lv_sub hl [2, 3, 1, 0, 4] rfl) hP hD hS
          clear ej76
          refine lv_icmp_eq (pc := 64) (tgt := 76) hx hb dX12_best_64 (by decide) (fun c_64 => ?_) (fun c_64 => ?_)
          · replace hf := it_t c_64 hf
            exact hj76  hf _ _ _ (lv_sub hl [1, 2, 5, 0] rfl) hP hD hS
          · replace hf := it_f c_64 hf
            refine lv_iload (pc := 67) hx hb dX12_best_67 (lv_at hl 0 rfl) ?_
            refine lv_iload_n (pc := 69) hx hb dX12_best_69 rfl (lv_at hl 4 rfl) ?_
            refine lv_icmp_lt (pc := 70) (tgt := 76) hx hb dX12_best_70 (by decide) (fun c_70 => ?_) (fun c_70 => ?_)
            · replace hf := it_t c_70 hf
              exact hj76  hf _ _ _ (lv_sub hl [1, 2, 5, 0] rfl) hP hD hS
            · replace hf := it_f c_70 hf
              refine lv_goto (pc := 73) (tgt := 82) hx hb dX12_best_73 (by decide) ?_
              exact hj82 x42_2 x42_3 hf _ _ _ (lv_sub hl [1, 2, 3, 4, 5] rfl) hP hD hS
    exact key42 _ (-1) 0 0 v_other_20 v_from_20 v_dawn hf _ _ _ (lv_sub hl [4, 3, 2, 1, 0] rfl) hP hD hS
  · replace hf := it_t c_25 hf
    refine lv_aload_n (pc := 28) hx hb dX12_best_28 rfl (lv_at hl 1 rfl) ?_
    refine lv_bipush (pc := 29) (v := 6) hx hb dX12_best_29 (by decide) ?_
    obtain ⟨r_31, v_trouble_31, v_where_31, hc_31, hf⟩ := bd3 hf
    refine r_dalVi (pc := 31) (ws' := (wX12_best E h h_inn h_tape h_far h_from h_real h_other h_kept h_set h_book h_noteSort h_whose h_what h_noteIs h_fitting h_dawn h_likes h_walked h_came h_inn_creak h_inn_doorA h_inn_doorB h_inn_how h_inn_lies h_inn_isCold h_inn_falls h_inn_isFull h_inn_isTold h_inn_act h_inn_what h_inn_then h_inn_met h_inn_bed h_inn_dream h_inn_listens h_inn_name h_inn_nameSort h_inn_nameNumber 0 v_trouble_31 v_where_31 v_read v_taped v_size v_at v_sort v_place v_sign v_number v_fault v_wrongAt v_word v_marks v_notes v_inn_minutes v_inn_rooms v_inn_doors v_inn_things v_inn_dreams v_inn_sleepers v_inn_listeners v_inn_names v_other_20 v_inn_how v_inn_lies v_inn_isFull v_inn_bed v_inn_isTold v_inn_act v_inn_then v_inn_what v_inn_doorA v_inn_doorB v_from_20 v_inn_falls v_inn_creak v_inn_listens v_far v_inn_isCold v_inn_met v_fitting_20 v_book v_noteSort v_whose v_what v_noteIs v_dawn)) (As := [.int 6]) (rest := []) C (ctX12_refused l E h h_tape h_far h_from h_real h_other h_kept h_set h_real h_book h_noteSort h_whose h_what h_noteIs h_fitting h_dawn h_likes h_walked h_came 0 v_trouble v_where (some h_inn) v_read v_taped v_size v_at v_sort v_place v_sign v_number v_fault v_wrongAt v_word v_marks v_notes N 6 (r_31, v_trouble_31, v_where_31) hc_31) ml_X12_77 ⟨Nat.le_of_ble_eq_true rfl, Nat.le_of_ble_eq_true rfl⟩ hP hD hS 0 rfl rfl rfl [0] [27, 1, 2, 3, 4, 5, 6, 7, 8, 9, 10, 11, 12, 13, 14, 15, 16, 17, 18, 19, 20, 21, 22, 23, 24, 25, 26] 27 rfl rfl rfl rfl rfl rfl rfl hl.1 rfl (Nat.le_of_ble_eq_true rfl) ⟨Nat.zero_le _, Nat.zero_le _⟩ dX12_best_31 ?_
    clear hP hD hS; intro H locs hP hD hS
    cases hf
    rw [hQ]
    exact r_iret C hr hP hD hS rfl dX12_best_34
def wX12_best0 (E : EN) (h h_tape h_far h_from h_real h_other h_kept h_set h_book h_noteSort h_whose h_what h_noteIs h_fitting h_dawn h_likes h_walked h_came : Nat) (v_thrown : Int32) (v_trouble : Int32) (v_where : Int32) (v_read : Option Nat) (v_taped : Int32) (v_size : Int32) (v_at : Int32) (v_sort : Int32) (v_place : Int32) (v_sign : Int32) (v_number : Int32) (v_fault : Int32) (v_wrongAt : Int32) (v_word : Int64) (v_marks : Int32) (v_notes : Int32) : va_W := [(h, .inr (11, [.int v_thrown, .int v_trouble, .int v_where, .null, va_rf v_read, .ref h_tape, .int v_taped, .int v_size, .int v_at, .int v_sort, .int v_place, .int v_sign, .int v_number, .int v_fault, .int v_wrongAt, .long v_word, .ref h_far, .ref h_from, .ref h_real, .ref h_other, .ref h_kept, .ref h_set, .ref h_real, .int v_marks, .int v_notes, .ref h_book, .ref h_noteSort, .ref h_whose, .ref h_what, .ref h_noteIs, .ref h_fitting, .ref h_dawn, .ref h_likes, .ref h_walked, .ref h_came]))]
def fX12_best0 (N : Nat) : Option (Int32 × Int32 × Int32 × Int32) := (fX12_refused N 1).bind (un3 fun (r_14 : Int32) (v_trouble_14 : Int32) (v_where_14 : Int32) => some (r_14, 0, v_trouble_14, v_where_14))
set_option maxHeartbeats 4000000 in
set_option maxRecDepth 100000 in
theorem ctX12_best0 (l : Launch) (E : EN) (h h_tape h_far h_from h_real h_other h_kept h_set h_book h_noteSort h_whose h_what h_noteIs h_fitting h_dawn h_likes h_walked h_came : Nat) (v_thrown : Int32) (v_trouble : Int32) (v_where : Int32) (v_read : Option Nat) (v_taped : Int32) (v_size : Int32) (v_at : Int32) (v_sort : Int32) (v_place : Int32) (v_sign : Int32) (v_number : Int32) (v_fault : Int32) (v_wrongAt : Int32) (v_word : Int64) (v_marks : Int32) (v_notes : Int32) (N : Nat) (z : Int32 × Int32 × Int32 × Int32) (hf : fX12_best0 N  = some z) : CTi l E yX12_best cX12_best 6 .int 1 21 [.ref h] (wX12_best0 E h h_tape h_far h_from h_real h_other h_kept h_set h_book h_noteSort h_whose h_what h_noteIs h_fitting h_dawn h_likes h_walked h_came v_thrown v_trouble v_where v_read v_taped v_size v_at v_sort v_place v_sign v_number v_fault v_wrongAt v_word v_marks v_notes) (z.1) (wX12_best0 E h h_tape h_far h_from h_real h_other h_kept h_set h_book h_noteSort h_whose h_what h_noteIs h_fitting h_dawn h_likes h_walked h_came z.2.1 z.2.2.1 z.2.2.2 v_read v_taped v_size v_at v_sort v_place v_sign v_number v_fault v_wrongAt v_word v_marks v_notes) := by
  intro sz
  refine ct_body (by decide) (Nat.le_of_ble_eq_true rfl) ?_
  intro p e s m args below meth c A ls hAe C hr hin hP hD hS hl
  have C : CX p s m args meth c cX12_best RX12 6 E A := C
  have hl : lv_has ls 6 [(0, .ref h)] := hl
  have hx := C.1
  have hb := C.2.1
  rw [hAe]
  clear hAe
  obtain ⟨Q, hQ⟩ : ∃ Q, Q = MQ below (Qi E A (z.1) (wX12_best0 E h h_tape h_far h_from h_real h_other h_kept h_set h_book h_noteSort h_whose h_what h_noteIs h_fitting h_dawn h_likes h_walked h_came z.2.1 z.2.2.1 z.2.2.2 v_read v_taped v_size v_at v_sort v_place v_sign v_number v_fault v_wrongAt v_word v_marks v_notes)) args s 0 0 A := ⟨_, rfl⟩
  rw [← hQ]
  unfold fX12_best0 at hf
  refine lv_aload_n (pc := 0) hx hb dX12_best_0 rfl (lv_at hl 0 rfl) ?_
  refine lv_iconst (pc := 1) (v := 0) hx hb dX12_best_1 (by decide) ?_
  refine r_put (pc := 2) (ws' := (wX12_best0 E h h_tape h_far h_from h_real h_other h_kept h_set h_book h_noteSort h_whose h_what h_noteIs h_fitting h_dawn h_likes h_walked h_came 0 v_trouble v_where v_read v_taped v_size v_at v_sort v_place v_sign v_number v_fault v_wrongAt v_word v_marks v_notes)) C hP hD hS 0 rfl fl_X12_71 rfl rfl (Nat.le_of_ble_eq_true rfl) rfl dX12_best_2 ?_
  clear hP hD hS; intro H locs hP hD hS
  refine lv_aload_n (pc := 5) hx hb dX12_best_5 rfl (lv_at hl 0 rfl) ?_
  refine r_get (pc := 6) C hP 0 rfl fl_X12_358 rfl dX12_best_6 ?_
  refine lv_ifnonnullN (pc := 9) hx hb dX12_best_9 ?_
  refine lv_aload_n (pc := 12) hx hb dX12_best_12 rfl (lv_at hl 0 rfl) ?_
  refine lv_iconst (pc := 13) (v := 1) hx hb dX12_best_13 (by decide) ?_
  obtain ⟨r_14, v_trouble_14, v_where_14, hc_14, hf⟩ := bd3 hf
  refine r_dalVi (pc := 14) (ws' := (wX12_best0 E h h_tape h_far h_from h_real h_other h_kept h_set h_book h_noteSort h_whose h_what h_noteIs h_fitting h_dawn h_likes h_walked h_came 0 v_trouble_14 v_where_14 v_read v_taped v_size v_at v_sort v_place v_sign v_number v_fault v_wrongAt v_word v_marks v_notes)) (As := [.int 1]) (rest := []) C (ctX12_refused l E h h_tape h_far h_from h_real h_other h_kept h_set h_real h_book h_noteSort h_whose h_what h_noteIs h_fitting h_dawn h_likes h_walked h_came 0 v_trouble v_where none v_read v_taped v_size v_at v_sort v_place v_sign v_number v_fault v_wrongAt v_word v_marks v_notes N 1 (r_14, v_trouble_14, v_where_14) hc_14) ml_X12_77 ⟨Nat.le_of_ble_eq_true rfl, Nat.le_of_ble_eq_true rfl⟩ hP hD hS 0 rfl rfl rfl [0] [1] 1 rfl rfl rfl rfl rfl rfl rfl hl.1 rfl (Nat.le_of_ble_eq_true rfl) ⟨Nat.zero_le _, Nat.zero_le _⟩ dX12_best_14 ?_
  clear hP hD hS; intro H locs hP hD hS
  cases hf
  rw [hQ]
  exact r_iret C hr hP hD hS rfl dX12_best_17
def wX12_told (E : EN) (h h_inn h_tape h_far h_from h_real h_other h_kept h_set h_book h_noteSort h_whose h_what h_noteIs h_fitting h_dawn h_likes h_walked h_came h_inn_creak h_inn_doorA h_inn_doorB h_inn_how h_inn_lies h_inn_isCold h_inn_falls h_inn_isFull h_inn_isTold h_inn_act h_inn_what h_inn_then h_inn_met h_inn_bed h_inn_dream h_inn_listens h_inn_name h_inn_nameSort h_inn_nameNumber : Nat) (v_thrown : Int32) (v_trouble : Int32) (v_where : Int32) (v_read : Option Nat) (v_taped : Int32) (v_size : Int32) (v_at : Int32) (v_sort : Int32) (v_place : Int32) (v_sign : Int32) (v_number : Int32) (v_fault : Int32) (v_wrongAt : Int32) (v_word : Int64) (v_marks : Int32) (v_notes : Int32) (v_inn_minutes : Int32) (v_inn_rooms : Int32) (v_inn_doors : Int32) (v_inn_things : Int32) (v_inn_dreams : Int32) (v_inn_sleepers : Int32) (v_inn_listeners : Int32) (v_inn_names : Int32) (v_other : Nat → Int32) (v_inn_how : Nat → Int32) (v_inn_lies : Nat → Int32) (v_inn_isFull : Nat → Int32) (v_inn_bed : Nat → Int32) (v_inn_isTold : Nat → Int32) (v_inn_act : Nat → Int32) (v_inn_then : Nat → Int32) (v_inn_what : Nat → Int32) (v_inn_doorA : Nat → Int32) (v_inn_doorB : Nat → Int32) (v_from : Nat → Int32) (v_inn_falls : Nat → Int32) (v_inn_creak : Nat → Int32) (v_inn_listens : Nat → Int32) (v_far : Nat → Int32) (v_inn_isCold : Nat → Int32) (v_inn_met : Nat → Int32) (v_fitting : Nat → Int32) (v_book : Nat → Int32) (v_noteSort : Nat → Int32) (v_whose : Nat → Int32) (v_what : Nat → Int32) (v_noteIs : Nat → Int32) (v_dawn : Nat → Int32) : va_W := [(h, .inr (11, [.int v_thrown, .int v_trouble, .int v_where, .ref h_inn, va_rf v_read, .ref h_tape, .int v_taped, .int v_size, .int v_at, .int v_sort, .int v_place, .int v_sign, .int v_number, .int v_fault, .int v_wrongAt, .long v_word, .ref h_far, .ref h_from, .ref h_real, .ref h_other, .ref h_kept, .ref h_set, .ref h_real, .int v_marks, .int v_notes, .ref h_book, .ref h_noteSort, .ref h_whose, .ref h_what, .ref h_noteIs, .ref h_fitting, .ref h_dawn, .ref h_likes, .ref h_walked, .ref h_came])), (h_inn, .inr (10, [.int v_inn_minutes, .int v_inn_rooms, .int v_inn_doors, .int v_inn_things, .int v_inn_dreams, .int v_inn_sleepers, .int v_inn_listeners, .int v_inn_names, .ref h_inn_creak, .ref h_inn_doorA, .ref h_inn_doorB, .ref h_inn_how, .ref h_inn_lies, .ref h_inn_isCold, .ref h_inn_falls, .ref h_inn_isFull, .ref h_inn_isTold, .ref h_inn_act, .ref h_inn_what, .ref h_inn_then, .ref h_inn_met, .ref h_inn_bed, .ref h_inn_dream, .ref h_inn_listens, .ref h_inn_name, .ref h_inn_nameSort, .ref h_inn_nameNumber])), (h_other, aI E 51 v_other), (h_inn_how, aI E 10 v_inn_how), (h_inn_lies, aI E 4 v_inn_lies), (h_inn_isFull, aZ E 4 v_inn_isFull), (h_inn_bed, aI E 3 v_inn_bed), (h_inn_isTold, aZ E 16 v_inn_isTold), (h_inn_act, aI E 16 v_inn_act), (h_inn_then, aI E 16 v_inn_then), (h_inn_what, aI E 16 v_inn_what), (h_inn_doorA, aI E 10 v_inn_doorA), (h_inn_doorB, aI E 10 v_inn_doorB), (h_from, aI E 8 v_from), (h_inn_falls, aZ E 10 v_inn_falls), (h_inn_creak, aI E 8 v_inn_creak), (h_inn_listens, aI E 3 v_inn_listens), (h_far, aI E 64 v_far), (h_inn_isCold, aZ E 8 v_inn_isCold), (h_inn_met, aI E 16 v_inn_met), (h_fitting, aI E 64 v_fitting), (h_book, aI E 20 v_book), (h_noteSort, aI E 20 v_noteSort), (h_whose, aI E 20 v_whose), (h_what, aI E 20 v_what), (h_noteIs, aZ E 20 v_noteIs), (h_dawn, aI E 3840 v_dawn)]
def fX12_told (N : Nat) (p0 : Int32) (p1 : Int32) (v_notes : Int32) (v_inn_minutes : Int32) (v_inn_rooms : Int32) (v_inn_doors : Int32) (v_inn_things : Int32) (v_inn_dreams : Int32) (v_inn_sleepers : Int32) (v_inn_listeners : Int32) (v_other : Nat → Int32) (v_inn_how : Nat → Int32) (v_inn_lies : Nat → Int32) (v_inn_isFull : Nat → Int32) (v_inn_bed : Nat → Int32) (v_inn_isTold : Nat → Int32) (v_inn_act : Nat → Int32) (v_inn_then : Nat → Int32) (v_inn_what : Nat → Int32) (v_inn_doorA : Nat → Int32) (v_inn_doorB : Nat → Int32) (v_from : Nat → Int32) (v_inn_falls : Nat → Int32) (v_inn_creak : Nat → Int32) (v_inn_listens : Nat → Int32) (v_far : Nat → Int32) (v_inn_isCold : Nat → Int32) (v_inn_met : Nat → Int32) (v_fitting : Nat → Int32) (v_book : Nat → Int32) (v_noteSort : Nat → Int32) (v_whose : Nat → Int32) (v_what : Nat → Int32) (v_noteIs : Nat → Int32) (v_dawn : Nat → Int32) : Option (Int32 × Int32 × Int32 × Int32 × (Nat → Int32) × (Nat → Int32) × (Nat → Int32) × (Nat → Int32)) := (fX12_isSetting N p0 v_inn_doors).bind (un1 fun (r_7 : Int32) => if r_7 = 0 then ((fX12_refused N 1).bind (un3 fun (r_23 : Int32) (v_trouble_23 : Int32) (v_where_23 : Int32) => some (r_23, 0, v_trouble_23, v_where_23, v_other, v_from, v_fitting, v_dawn))) else ((fX12_isSetting N p1 v_inn_doors).bind (un1 fun (r_15 : Int32) => if r_15 = 0 then ((fX12_refused N 1).bind (un3 fun (r_23 : Int32) (v_trouble_23 : Int32) (v_where_23 : Int32) => some (r_23, 0, v_trouble_23, v_where_23, v_other, v_from, v_fitting, v_dawn))) else ((fX12_fitsBy N 3 v_notes v_inn_minutes v_inn_rooms v_inn_doors v_inn_things v_inn_dreams v_inn_sleepers v_inn_listeners v_other v_inn_how v_inn_lies v_inn_isFull v_inn_bed v_inn_isTold v_inn_act v_inn_then v_inn_what v_inn_doorA v_inn_doorB v_from v_inn_falls v_inn_creak v_inn_listens v_far v_inn_isCold v_inn_met v_fitting v_book v_noteSort v_whose v_what v_noteIs).bind (un4 fun (r_29 : Int32) (v_other_29 : Nat → Int32) (v_from_29 : Nat → Int32) (v_fitting_29 : Nat → Int32) => if r_29 = 0 then ((fX12_refused N 6).bind (un3 fun (r_40 : Int32) (v_trouble_40 : Int32) (v_where_40 : Int32) => some (r_40, 0, v_trouble_40, v_where_40, v_other_29, v_from_29, v_fitting_29, v_dawn))) else ((fX12_mostAlike N r_29 p0 p1 v_dawn v_fitting_29 v_inn_minutes v_inn_rooms v_inn_doors v_inn_things v_inn_dreams v_inn_sleepers v_inn_listeners v_other_29 v_inn_how v_inn_lies v_inn_isFull v_inn_bed v_inn_isTold v_inn_act v_inn_then v_inn_what v_inn_doorA v_inn_doorB v_from_29 v_inn_falls v_inn_creak v_inn_listens v_far v_inn_isCold v_inn_met).bind (un4 fun (r_51 : Int32) (v_dawn_51 : Nat → Int32) (v_other_51 : Nat → Int32) (v_from_51 : Nat → Int32) => (fX12_good N r_51).bind (un3 fun (r_54 : Int32) (v_trouble_54 : Int32) (v_where_54 : Int32) => some (r_54, 0, v_trouble_54, v_where_54, v_other_51, v_from_51, v_fitting_29, v_dawn_51)))))))))
set_option maxHeartbeats 4000000 in
set_option maxRecDepth 100000 in
theorem ctX12_told (l : Launch) (E : EN) (h h_inn h_tape h_far h_from h_real h_other h_kept h_set h_book h_noteSort h_whose h_what h_noteIs h_fitting h_dawn h_likes h_walked h_came h_inn_creak h_inn_doorA h_inn_doorB h_inn_how h_inn_lies h_inn_isCold h_inn_falls h_inn_isFull h_inn_isTold h_inn_act h_inn_what h_inn_then h_inn_met h_inn_bed h_inn_dream h_inn_listens h_inn_name h_inn_nameSort h_inn_nameNumber : Nat) (v_thrown : Int32) (v_trouble : Int32) (v_where : Int32) (v_read : Option Nat) (v_taped : Int32) (v_size : Int32) (v_at : Int32) (v_sort : Int32) (v_place : Int32) (v_sign : Int32) (v_number : Int32) (v_fault : Int32) (v_wrongAt : Int32) (v_word : Int64) (v_marks : Int32) (v_notes : Int32) (v_inn_minutes : Int32) (v_inn_rooms : Int32) (v_inn_doors : Int32) (v_inn_things : Int32) (v_inn_dreams : Int32) (v_inn_sleepers : Int32) (v_inn_listeners : Int32) (v_inn_names : Int32) (v_other : Nat → Int32) (v_inn_how : Nat → Int32) (v_inn_lies : Nat → Int32) (v_inn_isFull : Nat → Int32) (v_inn_bed : Nat → Int32) (v_inn_isTold : Nat → Int32) (v_inn_act : Nat → Int32) (v_inn_then : Nat → Int32) (v_inn_what : Nat → Int32) (v_inn_doorA : Nat → Int32) (v_inn_doorB : Nat → Int32) (v_from : Nat → Int32) (v_inn_falls : Nat → Int32) (v_inn_creak : Nat → Int32) (v_inn_listens : Nat → Int32) (v_far : Nat → Int32) (v_inn_isCold : Nat → Int32) (v_inn_met : Nat → Int32) (v_fitting : Nat → Int32) (v_book : Nat → Int32) (v_noteSort : Nat → Int32) (v_whose : Nat → Int32) (v_what : Nat → Int32) (v_noteIs : Nat → Int32) (v_dawn : Nat → Int32) (N : Nat) (p0 : Int32) (p1 : Int32) (z : Int32 × Int32 × Int32 × Int32 × (Nat → Int32) × (Nat → Int32) × (Nat → Int32) × (Nat → Int32)) (hf : fX12_told N p0 p1 v_notes v_inn_minutes v_inn_rooms v_inn_doors v_inn_things v_inn_dreams v_inn_sleepers v_inn_listeners v_other v_inn_how v_inn_lies v_inn_isFull v_inn_bed v_inn_isTold v_inn_act v_inn_then v_inn_what v_inn_doorA v_inn_doorB v_from v_inn_falls v_inn_creak v_inn_listens v_far v_inn_isCold v_inn_met v_fitting v_book v_noteSort v_whose v_what v_noteIs v_dawn = some z) : CTi l E yX12_told cX12_told 4 .int 9 212 [.ref h, .int p0, .int p1] (wX12_told E h h_inn h_tape h_far h_from h_real h_other h_kept h_set h_book h_noteSort h_whose h_what h_noteIs h_fitting h_dawn h_likes h_walked h_came h_inn_creak h_inn_doorA h_inn_doorB h_inn_how h_inn_lies h_inn_isCold h_inn_falls h_inn_isFull h_inn_isTold h_inn_act h_inn_what h_inn_then h_inn_met h_inn_bed h_inn_dream h_inn_listens h_inn_name h_inn_nameSort h_inn_nameNumber v_thrown v_trouble v_where v_read v_taped v_size v_at v_sort v_place v_sign v_number v_fault v_wrongAt v_word v_marks v_notes v_inn_minutes v_inn_rooms v_inn_doors v_inn_things v_inn_dreams v_inn_sleepers v_inn_listeners v_inn_names v_other v_inn_how v_inn_lies v_inn_isFull v_inn_bed v_inn_isTold v_inn_act v_inn_then v_inn_what v_inn_doorA v_inn_doorB v_from v_inn_falls v_inn_creak v_inn_listens v_far v_inn_isCold v_inn_met v_fitting v_book v_noteSort v_whose v_what v_noteIs v_dawn) (z.1) (wX12_told E h h_inn h_tape h_far h_from h_real h_other h_kept h_set h_book h_noteSort h_whose h_what h_noteIs h_fitting h_dawn h_likes h_walked h_came h_inn_creak h_inn_doorA h_inn_doorB h_inn_how h_inn_lies h_inn_isCold h_inn_falls h_inn_isFull h_inn_isTold h_inn_act h_inn_what h_inn_then h_inn_met h_inn_bed h_inn_dream h_inn_listens h_inn_name h_inn_nameSort h_inn_nameNumber z.2.1 z.2.2.1 z.2.2.2.1 v_read v_taped v_size v_at v_sort v_place v_sign v_number v_fault v_wrongAt v_word v_marks v_notes v_inn_minutes v_inn_rooms v_inn_doors v_inn_things v_inn_dreams v_inn_sleepers v_inn_listeners v_inn_names z.2.2.2.2.1 v_inn_how v_inn_lies v_inn_isFull v_inn_bed v_inn_isTold v_inn_act v_inn_then v_inn_what v_inn_doorA v_inn_doorB z.2.2.2.2.2.1 v_inn_falls v_inn_creak v_inn_listens v_far v_inn_isCold v_inn_met z.2.2.2.2.2.2.1 v_book v_noteSort v_whose v_what v_noteIs z.2.2.2.2.2.2.2) := by
  intro sz
  refine ct_body (by decide) (Nat.le_of_ble_eq_true rfl) ?_
  intro p e s m args below meth c A ls hAe C hr hin hP hD hS hl
  have C : CX p s m args meth c cX12_told RX12 4 E A := C
  have hl : lv_has ls 4 [(0, .ref h), (1, .int p0), (2, .int p1)] := hl
  have hx := C.1
  have hb := C.2.1
  rw [hAe]
  clear hAe
  obtain ⟨Q, hQ⟩ : ∃ Q, Q = MQ below (Qi E A (z.1) (wX12_told E h h_inn h_tape h_far h_from h_real h_other h_kept h_set h_book h_noteSort h_whose h_what h_noteIs h_fitting h_dawn h_likes h_walked h_came h_inn_creak h_inn_doorA h_inn_doorB h_inn_how h_inn_lies h_inn_isCold h_inn_falls h_inn_isFull h_inn_isTold h_inn_act h_inn_what h_inn_then h_inn_met h_inn_bed h_inn_dream h_inn_listens h_inn_name h_inn_nameSort h_inn_nameNumber z.2.1 z.2.2.1 z.2.2.2.1 v_read v_taped v_size v_at v_sort v_place v_sign v_number v_fault v_wrongAt v_word v_marks v_notes v_inn_minutes v_inn_rooms v_inn_doors v_inn_things v_inn_dreams v_inn_sleepers v_inn_listeners v_inn_names z.2.2.2.2.1 v_inn_how v_inn_lies v_inn_isFull v_inn_bed v_inn_isTold v_inn_act v_inn_then v_inn_what v_inn_doorA v_inn_doorB z.2.2.2.2.2.1 v_inn_falls v_inn_creak v_inn_listens v_far v_inn_isCold v_inn_met z.2.2.2.2.2.2.1 v_book v_noteSort v_whose v_what v_noteIs z.2.2.2.2.2.2.2)) args s 0 0 A := ⟨_, rfl⟩
  rw [← hQ]
  unfold fX12_told at hf
  refine lv_aload_n (pc := 0) hx hb dX12_told_0 rfl (lv_at hl 0 rfl) ?_
  refine lv_iconst (pc := 1) (v := 0) hx hb dX12_told_1 (by decide) ?_
  refine r_put (pc := 2) (ws' := (wX12_told E h h_inn h_tape h_far h_from h_real h_other h_kept h_set h_book h_noteSort h_whose h_what h_noteIs h_fitting h_dawn h_likes h_walked h_came h_inn_creak h_inn_doorA h_inn_doorB h_inn_how h_inn_lies h_inn_isCold h_inn_falls h_inn_isFull h_inn_isTold h_inn_act h_inn_what h_inn_then h_inn_met h_inn_bed h_inn_dream h_inn_listens h_inn_name h_inn_nameSort h_inn_nameNumber 0 v_trouble v_where v_read v_taped v_size v_at v_sort v_place v_sign v_number v_fault v_wrongAt v_word v_marks v_notes v_inn_minutes v_inn_rooms v_inn_doors v_inn_things v_inn_dreams v_inn_sleepers v_inn_listeners v_inn_names v_other v_inn_how v_inn_lies v_inn_isFull v_inn_bed v_inn_isTold v_inn_act v_inn_then v_inn_what v_inn_doorA v_inn_doorB v_from v_inn_falls v_inn_creak v_inn_listens v_far v_inn_isCold v_inn_met v_fitting v_book v_noteSort v_whose v_what v_noteIs v_dawn)) C hP hD hS 0 rfl fl_X12_71 rfl rfl (Nat.le_of_ble_eq_true rfl) rfl dX12_told_2 ?_
  clear hP hD hS; intro H locs hP hD hS
  refine lv_aload_n (pc := 5) hx hb dX12_told_5 rfl (lv_at hl 0 rfl) ?_
  refine lv_iload_n (pc := 6) hx hb dX12_told_6 rfl (lv_at hl 1 rfl) ?_
  obtain ⟨r_7, hc_7, hf⟩ := bd1 hf
  refine r_dalVi (pc := 7) (ws' := (wX12_told E h h_inn h_tape h_far h_from h_real h_other h_kept h_set h_book h_noteSort h_whose h_what h_noteIs h_fitting h_dawn h_likes h_walked h_came h_inn_creak h_inn_doorA h_inn_doorB h_inn_how h_inn_lies h_inn_isCold h_inn_falls h_inn_isFull h_inn_isTold h_inn_act h_inn_what h_inn_then h_inn_met h_inn_bed h_inn_dream h_inn_listens h_inn_name h_inn_nameSort h_inn_nameNumber 0 v_trouble v_where v_read v_taped v_size v_at v_sort v_place v_sign v_number v_fault v_wrongAt v_word v_marks v_notes v_inn_minutes v_inn_rooms v_inn_doors v_inn_things v_inn_dreams v_inn_sleepers v_inn_listeners v_inn_names v_other v_inn_how v_inn_lies v_inn_isFull v_inn_bed v_inn_isTold v_inn_act v_inn_then v_inn_what v_inn_doorA v_inn_doorB v_from v_inn_falls v_inn_creak v_inn_listens v_far v_inn_isCold v_inn_met v_fitting v_book v_noteSort v_whose v_what v_noteIs v_dawn)) (As := [.int p0]) (rest := []) C (ctX12_isSetting l E h h_inn h_tape h_far h_from h_real h_other h_kept h_set h_real h_book h_noteSort h_whose h_what h_noteIs h_fitting h_dawn h_likes h_walked h_came h_inn_creak h_inn_doorA h_inn_doorB h_inn_how h_inn_lies h_inn_isCold h_inn_falls h_inn_isFull h_inn_isTold h_inn_act h_inn_what h_inn_then h_inn_met h_inn_bed h_inn_dream h_inn_listens h_inn_name h_inn_nameSort h_inn_nameNumber 0 v_trouble v_where v_read v_taped v_size v_at v_sort v_place v_sign v_number v_fault v_wrongAt v_word v_marks v_notes v_inn_minutes v_inn_rooms v_inn_doors v_inn_things v_inn_dreams v_inn_sleepers v_inn_listeners v_inn_names N p0 r_7 hc_7) ml_X12_412 ⟨Nat.le_of_ble_eq_true rfl, Nat.le_of_ble_eq_true rfl⟩ hP hD hS 0 rfl rfl rfl [0, 1] [27, 28, 2, 3, 4, 5, 6, 7, 8, 9, 10, 11, 12, 13, 14, 15, 16, 17, 18, 19, 20, 21, 22, 23, 24, 25, 26] 27 rfl rfl rfl rfl rfl rfl rfl hl.1 rfl (Nat.le_of_ble_eq_true rfl) ⟨Nat.zero_le _, Nat.zero_le _⟩ dX12_told_7 ?_
  clear hP hD hS; intro H locs hP hD hS
  refine lv_if_eq (pc := 10) (tgt := 21) hx hb dX12_told_10 (by decide) (fun c_10 => ?_) (fun c_10 => ?_)
  · replace hf := it_t c_10 hf
    refine lv_aload_n (pc := 21) hx hb dX12_told_21 rfl (lv_at hl 0 rfl) ?_
    refine lv_iconst (pc := 22) (v := 1) hx hb dX12_told_22 (by decide) ?_
    obtain ⟨r_23, v_trouble_23, v_where_23, hc_23, hf⟩ := bd3 hf
    refine r_dalVi (pc := 23) (ws' := (wX12_told E h h_inn h_tape h_far h_from h_real h_other h_kept h_set h_book h_noteSort h_whose h_what h_noteIs h_fitting h_dawn h_likes h_walked h_came h_inn_creak h_inn_doorA h_inn_doorB h_inn_how h_inn_lies h_inn_isCold h_inn_falls h_inn_isFull h_inn_isTold h_inn_act h_inn_what h_inn_then h_inn_met h_inn_bed h_inn_dream h_inn_listens h_inn_name h_inn_nameSort h_inn_nameNumber 0 v_trouble_23 v_where_23 v_read v_taped v_size v_at v_sort v_place v_sign v_number v_fault v_wrongAt v_word v_marks v_notes v_inn_minutes v_inn_rooms v_inn_doors v_inn_things v_inn_dreams v_inn_sleepers v_inn_listeners v_inn_names v_other v_inn_how v_inn_lies v_inn_isFull v_inn_bed v_inn_isTold v_inn_act v_inn_then v_inn_what v_inn_doorA v_inn_doorB v_from v_inn_falls v_inn_creak v_inn_listens v_far v_inn_isCold v_inn_met v_fitting v_book v_noteSort v_whose v_what v_noteIs v_dawn)) (As := [.int 1]) (rest := []) C (ctX12_refused l E h h_tape h_far h_from h_real h_other h_kept h_set h_real h_book h_noteSort h_whose h_what h_noteIs h_fitting h_dawn h_likes h_walked h_came 0 v_trouble v_where (some h_inn) v_read v_taped v_size v_at v_sort v_place v_sign v_number v_fault v_wrongAt v_word v_marks v_notes N 1 (r_23, v_trouble_23, v_where_23) hc_23) ml_X12_77 ⟨Nat.le_of_ble_eq_true rfl, Nat.le_of_ble_eq_true rfl⟩ hP hD hS 0 rfl rfl rfl [0] [27, 1, 2, 3, 4, 5, 6, 7, 8, 9, 10, 11, 12, 13, 14, 15, 16, 17, 18, 19, 20, 21, 22, 23, 24, 25, 26] 27 rfl rfl rfl rfl rfl rfl rfl hl.1 rfl (Nat.le_of_ble_eq_true rfl) ⟨Nat.zero_le _, Nat.zero_le _⟩ dX12_told_23 ?_
    clear hP hD hS; intro H locs hP hD hS
    cases hf
    rw [hQ]
    exact r_iret C hr hP hD hS rfl dX12_told_26
  · replace hf := it_f c_10 hf
    refine lv_aload_n (pc := 13) hx hb dX12_told_13 rfl (lv_at hl 0 rfl) ?_
    refine lv_iload_n (pc := 14) hx hb dX12_told_14 rfl (lv_at hl 2 rfl) ?_
    obtain ⟨r_15, hc_15, hf⟩ := bd1 hf
    refine r_dalVi (pc := 15) (ws' := (wX12_told E h h_inn h_tape h_far h_from h_real h_other h_kept h_set h_book h_noteSort h_whose h_what h_noteIs h_fitting h_dawn h_likes h_walked h_came h_inn_creak h_inn_doorA h_inn_doorB h_inn_how h_inn_lies h_inn_isCold h_inn_falls h_inn_isFull h_inn_isTold h_inn_act h_inn_what h_inn_then h_inn_met h_inn_bed h_inn_dream h_inn_listens h_inn_name h_inn_nameSort h_inn_nameNumber 0 v_trouble v_where v_read v_taped v_size v_at v_sort v_place v_sign v_number v_fault v_wrongAt v_word v_marks v_notes v_inn_minutes v_inn_rooms v_inn_doors v_inn_things v_inn_dreams v_inn_sleepers v_inn_listeners v_inn_names v_other v_inn_how v_inn_lies v_inn_isFull v_inn_bed v_inn_isTold v_inn_act v_inn_then v_inn_what v_inn_doorA v_inn_doorB v_from v_inn_falls v_inn_creak v_inn_listens v_far v_inn_isCold v_inn_met v_fitting v_book v_noteSort v_whose v_what v_noteIs v_dawn)) (As := [.int p1]) (rest := []) C (ctX12_isSetting l E h h_inn h_tape h_far h_from h_real h_other h_kept h_set h_real h_book h_noteSort h_whose h_what h_noteIs h_fitting h_dawn h_likes h_walked h_came h_inn_creak h_inn_doorA h_inn_doorB h_inn_how h_inn_lies h_inn_isCold h_inn_falls h_inn_isFull h_inn_isTold h_inn_act h_inn_what h_inn_then h_inn_met h_inn_bed h_inn_dream h_inn_listens h_inn_name h_inn_nameSort h_inn_nameNumber 0 v_trouble v_where v_read v_taped v_size v_at v_sort v_place v_sign v_number v_fault v_wrongAt v_word v_marks v_notes v_inn_minutes v_inn_rooms v_inn_doors v_inn_things v_inn_dreams v_inn_sleepers v_inn_listeners v_inn_names N p1 r_15 hc_15) ml_X12_412 ⟨Nat.le_of_ble_eq_true rfl, Nat.le_of_ble_eq_true rfl⟩ hP hD hS 0 rfl rfl rfl [0, 1] [27, 28, 2, 3, 4, 5, 6, 7, 8, 9, 10, 11, 12, 13, 14, 15, 16, 17, 18, 19, 20, 21, 22, 23, 24, 25, 26] 27 rfl rfl rfl rfl rfl rfl rfl hl.1 rfl (Nat.le_of_ble_eq_true rfl) ⟨Nat.zero_le _, Nat.zero_le _⟩ dX12_told_15 ?_
    clear hP hD hS; intro H locs hP hD hS
    refine lv_if_ne (pc := 18) (tgt := 27) hx hb dX12_told_18 (by decide) (fun c_18 => ?_) (fun c_18 => ?_)
    · replace hf := it_f c_18 hf
      refine lv_aload_n (pc := 27) hx hb dX12_told_27 rfl (lv_at hl 0 rfl) ?_
      refine lv_iconst (pc := 28) (v := 3) hx hb dX12_told_28 (by decide) ?_
      obtain ⟨r_29, v_other_29, v_from_29, v_fitting_29, hc_29, hf⟩ := bd4 hf
      refine r_dalVi (pc := 29) (ws' := (wX12_told E h h_inn h_tape h_far h_from h_real h_other h_kept h_set h_book h_noteSort h_whose h_what h_noteIs h_fitting h_dawn h_likes h_walked h_came h_inn_creak h_inn_doorA h_inn_doorB h_inn_how h_inn_lies h_inn_isCold h_inn_falls h_inn_isFull h_inn_isTold h_inn_act h_inn_what h_inn_then h_inn_met h_inn_bed h_inn_dream h_inn_listens h_inn_name h_inn_nameSort h_inn_nameNumber 0 v_trouble v_where v_read v_taped v_size v_at v_sort v_place v_sign v_number v_fault v_wrongAt v_word v_marks v_notes v_inn_minutes v_inn_rooms v_inn_doors v_inn_things v_inn_dreams v_inn_sleepers v_inn_listeners v_inn_names v_other_29 v_inn_how v_inn_lies v_inn_isFull v_inn_bed v_inn_isTold v_inn_act v_inn_then v_inn_what v_inn_doorA v_inn_doorB v_from_29 v_inn_falls v_inn_creak v_inn_listens v_far v_inn_isCold v_inn_met v_fitting_29 v_book v_noteSort v_whose v_what v_noteIs v_dawn)) (As := [.int 3]) (rest := []) C (ctX12_fitsBy l E h h_inn h_tape h_far h_from h_real h_other h_kept h_set h_book h_noteSort h_whose h_what h_noteIs h_fitting h_dawn h_likes h_walked h_came h_inn_creak h_inn_doorA h_inn_doorB h_inn_how h_inn_lies h_inn_isCold h_inn_falls h_inn_isFull h_inn_isTold h_inn_act h_inn_what h_inn_then h_inn_met h_inn_bed h_inn_dream h_inn_listens h_inn_name h_inn_nameSort h_inn_nameNumber 0 v_trouble v_where v_read v_taped v_size v_at v_sort v_place v_sign v_number v_fault v_wrongAt v_word v_marks v_notes v_inn_minutes v_inn_rooms v_inn_doors v_inn_things v_inn_dreams v_inn_sleepers v_inn_listeners v_inn_names v_other v_inn_how v_inn_lies v_inn_isFull v_inn_bed v_inn_isTold v_inn_act v_inn_then v_inn_what v_inn_doorA v_inn_doorB v_from v_inn_falls v_inn_creak v_inn_listens v_far v_inn_isCold v_inn_met v_fitting v_book v_noteSort v_whose v_what v_noteIs N 3 (r_29, v_other_29, v_from_29, v_fitting_29) hc_29) ml_X12_464 ⟨Nat.le_of_ble_eq_true rfl, Nat.le_of_ble_eq_true rfl⟩ hP hD hS 0 rfl rfl rfl [0, 1, 2, 3, 4, 5, 6, 7, 8, 9, 10, 11, 12, 13, 14, 15, 16, 17, 18, 19, 20, 21, 22, 23, 24, 25] [27, 28, 29, 30, 31, 32, 33, 34, 35, 36, 37, 38, 39, 40, 41, 42, 43, 44, 45, 46, 47, 48, 49, 50, 51, 52, 26] 27 rfl rfl rfl rfl rfl rfl rfl hl.1 rfl (Nat.le_of_ble_eq_true rfl) ⟨Nat.zero_le _, Nat.zero_le _⟩ dX12_told_29 ?_
      clear hP hD hS; intro H locs hP hD hS
      refine lv_istore_n (pc := 32) (lv' := [(3, .int r_29), (0, .ref h), (1, .int p0), (2, .int p1)]) hx hb dX12_told_32 rfl hl (by decide) rfl (fun ls hl => ?_)
      refine lv_iload_n (pc := 33) hx hb dX12_told_33 rfl (lv_at hl 0 rfl) ?_
      refine lv_if_ne (pc := 34) (tgt := 46) hx hb dX12_told_34 (by decide) (fun c_34 => ?_) (fun c_34 => ?_)
      · replace hf := it_f c_34 hf
        refine lv_aload_n (pc := 46) hx hb dX12_told_46 rfl (lv_at hl 1 rfl) ?_
        refine lv_aload_n (pc := 47) hx hb dX12_told_47 rfl (lv_at hl 1 rfl) ?_
        refine lv_iload_n (pc := 48) hx hb dX12_told_48 rfl (lv_at hl 0 rfl) ?_
        refine lv_iload_n (pc := 49) hx hb dX12_told_49 rfl (lv_at hl 2 rfl) ?_
        refine lv_iload_n (pc := 50) hx hb dX12_told_50 rfl (lv_at hl 3 rfl) ?_
        obtain ⟨r_51, v_dawn_51, v_other_51, v_from_51, hc_51, hf⟩ := bd4 hf
        refine r_dalVi (pc := 51) (ws' := (wX12_told E h h_inn h_tape h_far h_from h_real h_other h_kept h_set h_book h_noteSort h_whose h_what h_noteIs h_fitting h_dawn h_likes h_walked h_came h_inn_creak h_inn_doorA h_inn_doorB h_inn_how h_inn_lies h_inn_isCold h_inn_falls h_inn_isFull h_inn_isTold h_inn_act h_inn_what h_inn_then h_inn_met h_inn_bed h_inn_dream h_inn_listens h_inn_name h_inn_nameSort h_inn_nameNumber 0 v_trouble v_where v_read v_taped v_size v_at v_sort v_place v_sign v_number v_fault v_wrongAt v_word v_marks v_notes v_inn_minutes v_inn_rooms v_inn_doors v_inn_things v_inn_dreams v_inn_sleepers v_inn_listeners v_inn_names v_other_51 v_inn_how v_inn_lies v_inn_isFull v_inn_bed v_inn_isTold v_inn_act v_inn_then v_inn_what v_inn_doorA v_inn_doorB v_from_51 v_inn_falls v_inn_creak v_inn_listens v_far v_inn_isCold v_inn_met v_fitting_29 v_book v_noteSort v_whose v_what v_noteIs v_dawn_51)) (As := [.int r_29, .int p0, .int p1]) (rest := [.ref h]) C (ctX12_mostAlike l E h h_inn h_tape h_far h_from h_real h_other h_kept h_set h_book h_noteSort h_whose h_what h_noteIs h_fitting h_dawn h_likes h_walked h_came h_inn_creak h_inn_doorA h_inn_doorB h_inn_how h_inn_lies h_inn_isCold h_inn_falls h_inn_isFull h_inn_isTold h_inn_act h_inn_what h_inn_then h_inn_met h_inn_bed h_inn_dream h_inn_listens h_inn_name h_inn_nameSort h_inn_nameNumber 0 v_trouble v_where v_read v_taped v_size v_at v_sort v_place v_sign v_number v_fault v_wrongAt v_word v_marks v_notes v_dawn v_fitting_29 v_inn_minutes v_inn_rooms v_inn_doors v_inn_things v_inn_dreams v_inn_sleepers v_inn_listeners v_inn_names v_other_29 v_inn_how v_inn_lies v_inn_isFull v_inn_bed v_inn_isTold v_inn_act v_inn_then v_inn_what v_inn_doorA v_inn_doorB v_from_29 v_inn_falls v_inn_creak v_inn_listens v_far v_inn_isCold v_inn_met N r_29 p0 p1 (r_51, v_dawn_51, v_other_51, v_from_51) hc_51) ml_X12_477 ⟨Nat.le_of_ble_eq_true rfl, Nat.le_of_ble_eq_true rfl⟩ hP hD hS 0 rfl rfl rfl [0, 26, 20, 1, 2, 3, 4, 5, 6, 7, 8, 9, 10, 11, 12, 13, 14, 15, 16, 17, 18, 19] [27, 30, 31, 32, 33, 34, 35, 36, 37, 38, 39, 40, 41, 42, 43, 44, 45, 46, 47, 48, 29, 21, 22, 23, 24, 25, 28] 27 rfl rfl rfl rfl rfl rfl rfl hl.1 rfl (Nat.le_of_ble_eq_true rfl) ⟨Nat.zero_le _, Nat.zero_le _⟩ dX12_told_51 ?_
        clear hP hD hS; intro H locs hP hD hS
        obtain ⟨r_54, v_trouble_54, v_where_54, hc_54, hf⟩ := bd3 hf
        refine r_dalVi (pc := 54) (ws' := (wX12_told E h h_inn h_tape h_far h_from h_real h_other h_kept h_set h_book h_noteSort h_whose h_what h_noteIs h_fitting h_dawn h_likes h_walked h_came h_inn_creak h_inn_doorA h_inn_doorB h_inn_how h_inn_lies h_inn_isCold h_inn_falls h_inn_isFull h_inn_isTold h_inn_act h_inn_what h_inn_then h_inn_met h_inn_bed h_inn_dream h_inn_listens h_inn_name h_inn_nameSort h_inn_nameNumber 0 v_trouble_54 v_where_54 v_read v_taped v_size v_at v_sort v_place v_sign v_number v_fault v_wrongAt v_word v_marks v_notes v_inn_minutes v_inn_rooms v_inn_doors v_inn_things v_inn_dreams v_inn_sleepers v_inn_listeners v_inn_names v_other_51 v_inn_how v_inn_lies v_inn_isFull v_inn_bed v_inn_isTold v_inn_act v_inn_then v_inn_what v_inn_doorA v_inn_doorB v_from_51 v_inn_falls v_inn_creak v_inn_listens v_far v_inn_isCold v_inn_met v_fitting_29 v_book v_noteSort v_whose v_what v_noteIs v_dawn_51)) (As := [.int r_51]) (rest := []) C (ctX12_good l E h h_tape h_far h_from h_real h_other h_kept h_set h_real h_book h_noteSort h_whose h_what h_noteIs h_fitting h_dawn h_likes h_walked h_came 0 v_trouble v_where (some h_inn) v_read v_taped v_size v_at v_sort v_place v_sign v_number v_fault v_wrongAt v_word v_marks v_notes N r_51 (r_54, v_trouble_54, v_where_54) hc_54) ml_X12_81 ⟨Nat.le_of_ble_eq_true rfl, Nat.le_of_ble_eq_true rfl⟩ hP hD hS 0 rfl rfl rfl [0] [27, 1, 2, 3, 4, 5, 6, 7, 8, 9, 10, 11, 12, 13, 14, 15, 16, 17, 18, 19, 20, 21, 22, 23, 24, 25, 26] 27 rfl rfl rfl rfl rfl rfl rfl hl.1 rfl (Nat.le_of_ble_eq_true rfl) ⟨Nat.zero_le _, Nat.zero_le _⟩ dX12_told_54 ?_
        clear hP hD hS; intro H locs hP hD hS
        cases hf
        rw [hQ]
        exact r_iret C hr hP hD hS rfl dX12_told_57
      · replace hf := it_t c_34 hf
        refine lv_aload_n (pc := 37) hx hb dX12_told_37 rfl (lv_at hl 1 rfl) ?_
        refine lv_bipush (pc := 38) (v := 6) hx hb dX12_told_38 (by decide) ?_
        obtain ⟨r_40, v_trouble_40, v_where_40, hc_40, hf⟩ := bd3 hf
        refine r_dalVi (pc := 40) (ws' := (wX12_told E h h_inn h_tape h_far h_from h_real h_other h_kept h_set h_book h_noteSort h_whose h_what h_noteIs h_fitting h_dawn h_likes h_walked h_came h_inn_creak h_inn_doorA h_inn_doorB h_inn_how h_inn_lies h_inn_isCold h_inn_falls h_inn_isFull h_inn_isTold h_inn_act h_inn_what h_inn_then h_inn_met h_inn_bed h_inn_dream h_inn_listens h_inn_name h_inn_nameSort h_inn_nameNumber 0 v_trouble_40 v_where_40 v_read v_taped v_size v_at v_sort v_place v_sign v_number v_fault v_wrongAt v_word v_marks v_notes v_inn_minutes v_inn_rooms v_inn_doors v_inn_things v_inn_dreams v_inn_sleepers v_inn_listeners v_inn_names v_other_29 v_inn_how v_inn_lies v_inn_isFull v_inn_bed v_inn_isTold v_inn_act v_inn_then v_inn_what v_inn_doorA v_inn_doorB v_from_29 v_inn_falls v_inn_creak v_inn_listens v_far v_inn_isCold v_inn_met v_fitting_29 v_book v_noteSort v_whose v_what v_noteIs v_dawn)) (As := [.int 6]) (rest := []) C (ctX12_refused l E h h_tape h_far h_from h_real h_other h_kept h_set h_real h_book h_noteSort h_whose h_what h_noteIs h_fitting h_dawn h_likes h_walked h_came 0 v_trouble v_where (some h_inn) v_read v_taped v_size v_at v_sort v_place v_sign v_number v_fault v_wrongAt v_word v_marks v_notes N 6 (r_40, v_trouble_40, v_where_40) hc_40) ml_X12_77 ⟨Nat.le_of_ble_eq_true rfl, Nat.le_of_ble_eq_true rfl⟩ hP hD hS 0 rfl rfl rfl [0] [27, 1, 2, 3, 4, 5, 6, 7, 8, 9, 10, 11, 12, 13, 14, 15, 16, 17, 18, 19, 20, 21, 22, 23, 24, 25, 26] 27 rfl rfl rfl rfl rfl rfl rfl hl.1 rfl (Nat.le_of_ble_eq_true rfl) ⟨Nat.zero_le _, Nat.zero_le _⟩ dX12_told_40 ?_
        clear hP hD hS; intro H locs hP hD hS
        refine lv_goto (pc := 43) (tgt := 57) hx hb dX12_told_43 (by decide) ?_
        cases hf
        rw [hQ]
        exact r_iret C hr hP hD hS rfl dX12_told_57
    · replace hf := it_t c_18 hf
      refine lv_aload_n (pc := 21) hx hb dX12_told_21 rfl (lv_at hl 0 rfl) ?_
      refine lv_iconst (pc := 22) (v := 1) hx hb dX12_told_22 (by decide) ?_
      obtain ⟨r_23, v_trouble_23, v_where_23, hc_23, hf⟩ := bd3 hf
      refine r_dalVi (pc := 23) (ws' := (wX12_told E h h_inn h_tape h_far h_from h_real h_other h_kept h_set h_book h_noteSort h_whose h_what h_noteIs h_fitting h_dawn h_likes h_walked h_came h_inn_creak h_inn_doorA h_inn_doorB h_inn_how h_inn_lies h_inn_isCold h_inn_falls h_inn_isFull h_inn_isTold h_inn_act h_inn_what h_inn_then h_inn_met h_inn_bed h_inn_dream h_inn_listens h_inn_name h_inn_nameSort h_inn_nameNumber 0 v_trouble_23 v_where_23 v_read v_taped v_size v_at v_sort v_place v_sign v_number v_fault v_wrongAt v_word v_marks v_notes v_inn_minutes v_inn_rooms v_inn_doors v_inn_things v_inn_dreams v_inn_sleepers v_inn_listeners v_inn_names v_other v_inn_how v_inn_lies v_inn_isFull v_inn_bed v_inn_isTold v_inn_act v_inn_then v_inn_what v_inn_doorA v_inn_doorB v_from v_inn_falls v_inn_creak v_inn_listens v_far v_inn_isCold v_inn_met v_fitting v_book v_noteSort v_whose v_what v_noteIs v_dawn)) (As := [.int 1]) (rest := []) C (ctX12_refused l E h h_tape h_far h_from h_real h_other h_kept h_set h_real h_book h_noteSort h_whose h_what h_noteIs h_fitting h_dawn h_likes h_walked h_came 0 v_trouble v_where (some h_inn) v_read v_taped v_size v_at v_sort v_place v_sign v_number v_fault v_wrongAt v_word v_marks v_notes N 1 (r_23, v_trouble_23, v_where_23) hc_23) ml_X12_77 ⟨Nat.le_of_ble_eq_true rfl, Nat.le_of_ble_eq_true rfl⟩ hP hD hS 0 rfl rfl rfl [0] [27, 1, 2, 3, 4, 5, 6, 7, 8, 9, 10, 11, 12, 13, 14, 15, 16, 17, 18, 19, 20, 21, 22, 23, 24, 25, 26] 27 rfl rfl rfl rfl rfl rfl rfl hl.1 rfl (Nat.le_of_ble_eq_true rfl) ⟨Nat.zero_le _, Nat.zero_le _⟩ dX12_told_23 ?_
      clear hP hD hS; intro H locs hP hD hS
      cases hf
      rw [hQ]
      exact r_iret C hr hP hD hS rfl dX12_told_26
def wX12_told0 (E : EN) (h h_tape h_far h_from h_real h_other h_kept h_set h_book h_noteSort h_whose h_what h_noteIs h_fitting h_dawn h_likes h_walked h_came : Nat) (v_thrown : Int32) (v_trouble : Int32) (v_where : Int32) (v_read : Option Nat) (v_taped : Int32) (v_size : Int32) (v_at : Int32) (v_sort : Int32) (v_place : Int32) (v_sign : Int32) (v_number : Int32) (v_fault : Int32) (v_wrongAt : Int32) (v_word : Int64) (v_marks : Int32) (v_notes : Int32) : va_W := [(h, .inr (11, [.int v_thrown, .int v_trouble, .int v_where, .null, va_rf v_read, .ref h_tape, .int v_taped, .int v_size, .int v_at, .int v_sort, .int v_place, .int v_sign, .int v_number, .int v_fault, .int v_wrongAt, .long v_word, .ref h_far, .ref h_from, .ref h_real, .ref h_other, .ref h_kept, .ref h_set, .ref h_real, .int v_marks, .int v_notes, .ref h_book, .ref h_noteSort, .ref h_whose, .ref h_what, .ref h_noteIs, .ref h_fitting, .ref h_dawn, .ref h_likes, .ref h_walked, .ref h_came]))]
def fX12_told0 (N : Nat) : Option (Int32 × Int32 × Int32 × Int32) := (fX12_isSetting0 N).bind (un1 fun (r_7 : Int32) => if r_7 = 0 then ((fX12_refused N 1).bind (un3 fun (r_23 : Int32) (v_trouble_23 : Int32) (v_where_23 : Int32) => some (r_23, 0, v_trouble_23, v_where_23))) else ((fX12_isSetting0 N).bind (un1 fun (r_15 : Int32) => if r_15 = 0 then ((fX12_refused N 1).bind (un3 fun (r_23 : Int32) (v_trouble_23 : Int32) (v_where_23 : Int32) => some (r_23, 0, v_trouble_23, v_where_23))) else (none))))
set_option maxHeartbeats 4000000 in
set_option maxRecDepth 100000 in
theorem ctX12_told0 (l : Launch) (E : EN) (h h_tape h_far h_from h_real h_other h_kept h_set h_book h_noteSort h_whose h_what h_noteIs h_fitting h_dawn h_likes h_walked h_came : Nat) (v_thrown : Int32) (v_trouble : Int32) (v_where : Int32) (v_read : Option Nat) (v_taped : Int32) (v_size : Int32) (v_at : Int32) (v_sort : Int32) (v_place : Int32) (v_sign : Int32) (v_number : Int32) (v_fault : Int32) (v_wrongAt : Int32) (v_word : Int64) (v_marks : Int32) (v_notes : Int32) (N : Nat) (p0 : Int32) (p1 : Int32) (z : Int32 × Int32 × Int32 × Int32) (hf : fX12_told0 N  = some z) : CTi l E yX12_told cX12_told 4 .int 1 21 [.ref h, .int p0, .int p1] (wX12_told0 E h h_tape h_far h_from h_real h_other h_kept h_set h_book h_noteSort h_whose h_what h_noteIs h_fitting h_dawn h_likes h_walked h_came v_thrown v_trouble v_where v_read v_taped v_size v_at v_sort v_place v_sign v_number v_fault v_wrongAt v_word v_marks v_notes) (z.1) (wX12_told0 E h h_tape h_far h_from h_real h_other h_kept h_set h_book h_noteSort h_whose h_what h_noteIs h_fitting h_dawn h_likes h_walked h_came z.2.1 z.2.2.1 z.2.2.2 v_read v_taped v_size v_at v_sort v_place v_sign v_number v_fault v_wrongAt v_word v_marks v_notes) := by
  intro sz
  refine ct_body (by decide) (Nat.le_of_ble_eq_true rfl) ?_
  intro p e s m args below meth c A ls hAe C hr hin hP hD hS hl
  have C : CX p s m args meth c cX12_told RX12 4 E A := C
  have hl : lv_has ls 4 [(0, .ref h), (1, .int p0), (2, .int p1)] := hl
  have hx := C.1
  have hb := C.2.1
  rw [hAe]
  clear hAe
  obtain ⟨Q, hQ⟩ : ∃ Q, Q = MQ below (Qi E A (z.1) (wX12_told0 E h h_tape h_far h_from h_real h_other h_kept h_set h_book h_noteSort h_whose h_what h_noteIs h_fitting h_dawn h_likes h_walked h_came z.2.1 z.2.2.1 z.2.2.2 v_read v_taped v_size v_at v_sort v_place v_sign v_number v_fault v_wrongAt v_word v_marks v_notes)) args s 0 0 A := ⟨_, rfl⟩
  rw [← hQ]
  unfold fX12_told0 at hf
  refine lv_aload_n (pc := 0) hx hb dX12_told_0 rfl (lv_at hl 0 rfl) ?_
  refine lv_iconst (pc := 1) (v := 0) hx hb dX12_told_1 (by decide) ?_
  refine r_put (pc := 2) (ws' := (wX12_told0 E h h_tape h_far h_from h_real h_other h_kept h_set h_book h_noteSort h_whose h_what h_noteIs h_fitting h_dawn h_likes h_walked h_came 0 v_trouble v_where v_read v_taped v_size v_at v_sort v_place v_sign v_number v_fault v_wrongAt v_word v_marks v_notes)) C hP hD hS 0 rfl fl_X12_71 rfl rfl (Nat.le_of_ble_eq_true rfl) rfl dX12_told_2 ?_
  clear hP hD hS; intro H locs hP hD hS
  refine lv_aload_n (pc := 5) hx hb dX12_told_5 rfl (lv_at hl 0 rfl) ?_
  refine lv_iload_n (pc := 6) hx hb dX12_told_6 rfl (lv_at hl 1 rfl) ?_
  obtain ⟨r_7, hc_7, hf⟩ := bd1 hf
  refine r_dalVi (pc := 7) (ws' := (wX12_told0 E h h_tape h_far h_from h_real h_other h_kept h_set h_book h_noteSort h_whose h_what h_noteIs h_fitting h_dawn h_likes h_walked h_came 0 v_trouble v_where v_read v_taped v_size v_at v_sort v_place v_sign v_number v_fault v_wrongAt v_word v_marks v_notes)) (As := [.int p0]) (rest := []) C (ctX12_isSetting0 l E h h_tape h_far h_from h_real h_other h_kept h_set h_real h_book h_noteSort h_whose h_what h_noteIs h_fitting h_dawn h_likes h_walked h_came 0 v_trouble v_where v_read v_taped v_size v_at v_sort v_place v_sign v_number v_fault v_wrongAt v_word v_marks v_notes N p0 r_7 hc_7) ml_X12_412 ⟨Nat.le_of_ble_eq_true rfl, Nat.le_of_ble_eq_true rfl⟩ hP hD hS 0 rfl rfl rfl [0] [1] 1 rfl rfl rfl rfl rfl rfl rfl hl.1 rfl (Nat.le_of_ble_eq_true rfl) ⟨Nat.zero_le _, Nat.zero_le _⟩ dX12_told_7 ?_
  clear hP hD hS; intro H locs hP hD hS
  refine lv_if_eq (pc := 10) (tgt := 21) hx hb dX12_told_10 (by decide) (fun c_10 => ?_) (fun c_10 => ?_)
  · replace hf := it_t c_10 hf
    refine lv_aload_n (pc := 21) hx hb dX12_told_21 rfl (lv_at hl 0 rfl) ?_
    refine lv_iconst (pc := 22) (v := 1) hx hb dX12_told_22 (by decide) ?_
    obtain ⟨r_23, v_trouble_23, v_where_23, hc_23, hf⟩ := bd3 hf
    refine r_dalVi (pc := 23) (ws' := (wX12_told0 E h h_tape h_far h_from h_real h_other h_kept h_set h_book h_noteSort h_whose h_what h_noteIs h_fitting h_dawn h_likes h_walked h_came 0 v_trouble_23 v_where_23 v_read v_taped v_size v_at v_sort v_place v_sign v_number v_fault v_wrongAt v_word v_marks v_notes)) (As := [.int 1]) (rest := []) C (ctX12_refused l E h h_tape h_far h_from h_real h_other h_kept h_set h_real h_book h_noteSort h_whose h_what h_noteIs h_fitting h_dawn h_likes h_walked h_came 0 v_trouble v_where none v_read v_taped v_size v_at v_sort v_place v_sign v_number v_fault v_wrongAt v_word v_marks v_notes N 1 (r_23, v_trouble_23, v_where_23) hc_23) ml_X12_77 ⟨Nat.le_of_ble_eq_true rfl, Nat.le_of_ble_eq_true rfl⟩ hP hD hS 0 rfl rfl rfl [0] [1] 1 rfl rfl rfl rfl rfl rfl rfl hl.1 rfl (Nat.le_of_ble_eq_true rfl) ⟨Nat.zero_le _, Nat.zero_le _⟩ dX12_told_23 ?_
    clear hP hD hS; intro H locs hP hD hS
    cases hf
    rw [hQ]
    exact r_iret C hr hP hD hS rfl dX12_told_26
  · replace hf := it_f c_10 hf
    refine lv_aload_n (pc := 13) hx hb dX12_told_13 rfl (lv_at hl 0 rfl) ?_
    refine lv_iload_n (pc := 14) hx hb dX12_told_14 rfl (lv_at hl 2 rfl) ?_
    obtain ⟨r_15, hc_15, hf⟩ := bd1 hf
    refine r_dalVi (pc := 15) (ws' := (wX12_told0 E h h_tape h_far h_from h_real h_other h_kept h_set h_book h_noteSort h_whose h_what h_noteIs h_fitting h_dawn h_likes h_walked h_came 0 v_trouble v_where v_read v_taped v_size v_at v_sort v_place v_sign v_number v_fault v_wrongAt v_word v_marks v_notes)) (As := [.int p1]) (rest := []) C (ctX12_isSetting0 l E h h_tape h_far h_from h_real h_other h_kept h_set h_real h_book h_noteSort h_whose h_what h_noteIs h_fitting h_dawn h_likes h_walked h_came 0 v_trouble v_where v_read v_taped v_size v_at v_sort v_place v_sign v_number v_fault v_wrongAt v_word v_marks v_notes N p1 r_15 hc_15) ml_X12_412 ⟨Nat.le_of_ble_eq_true rfl, Nat.le_of_ble_eq_true rfl⟩ hP hD hS 0 rfl rfl rfl [0] [1] 1 rfl rfl rfl rfl rfl rfl rfl hl.1 rfl (Nat.le_of_ble_eq_true rfl) ⟨Nat.zero_le _, Nat.zero_le _⟩ dX12_told_15 ?_
    clear hP hD hS; intro H locs hP hD hS
    refine lv_if_ne (pc := 18) (tgt := 27) hx hb dX12_told_18 (by decide) (fun c_18 => ?_) (fun c_18 => ?_)
    · replace hf := it_f c_18 hf
      refine lv_aload_n (pc := 27) hx hb dX12_told_27 rfl (lv_at hl 0 rfl) ?_
      refine lv_iconst (pc := 28) (v := 3) hx hb dX12_told_28 (by decide) ?_
      cases hf
    · replace hf := it_t c_18 hf
      refine lv_aload_n (pc := 21) hx hb dX12_told_21 rfl (lv_at hl 0 rfl) ?_
      refine lv_iconst (pc := 22) (v := 1) hx hb dX12_told_22 (by decide) ?_
      obtain ⟨r_23, v_trouble_23, v_where_23, hc_23, hf⟩ := bd3 hf
      refine r_dalVi (pc := 23) (ws' := (wX12_told0 E h h_tape h_far h_from h_real h_other h_kept h_set h_book h_noteSort h_whose h_what h_noteIs h_fitting h_dawn h_likes h_walked h_came 0 v_trouble_23 v_where_23 v_read v_taped v_size v_at v_sort v_place v_sign v_number v_fault v_wrongAt v_word v_marks v_notes)) (As := [.int 1]) (rest := []) C (ctX12_refused l E h h_tape h_far h_from h_real h_other h_kept h_set h_real h_book h_noteSort h_whose h_what h_noteIs h_fitting h_dawn h_likes h_walked h_came 0 v_trouble v_where none v_read v_taped v_size v_at v_sort v_place v_sign v_number v_fault v_wrongAt v_word v_marks v_notes N 1 (r_23, v_trouble_23, v_where_23) hc_23) ml_X12_77 ⟨Nat.le_of_ble_eq_true rfl, Nat.le_of_ble_eq_true rfl⟩ hP hD hS 0 rfl rfl rfl [0] [1] 1 rfl rfl rfl rfl rfl rfl rfl hl.1 rfl (Nat.le_of_ble_eq_true rfl) ⟨Nat.zero_le _, Nat.zero_le _⟩ dX12_told_23 ?_
      clear hP hD hS; intro H locs hP hD hS
      cases hf
      rw [hQ]
      exact r_iret C hr hP hD hS rfl dX12_told_26
def wX12_compares (E : EN) (h h_inn h_tape h_far h_from h_real h_other h_kept h_set h_book h_noteSort h_whose h_what h_noteIs h_fitting h_dawn h_likes h_walked h_came h_inn_creak h_inn_doorA h_inn_doorB h_inn_how h_inn_lies h_inn_isCold h_inn_falls h_inn_isFull h_inn_isTold h_inn_act h_inn_what h_inn_then h_inn_met h_inn_bed h_inn_dream h_inn_listens h_inn_name h_inn_nameSort h_inn_nameNumber : Nat) (v_thrown : Int32) (v_trouble : Int32) (v_where : Int32) (v_read : Option Nat) (v_taped : Int32) (v_size : Int32) (v_at : Int32) (v_sort : Int32) (v_place : Int32) (v_sign : Int32) (v_number : Int32) (v_fault : Int32) (v_wrongAt : Int32) (v_word : Int64) (v_marks : Int32) (v_notes : Int32) (v_inn_minutes : Int32) (v_inn_rooms : Int32) (v_inn_doors : Int32) (v_inn_things : Int32) (v_inn_dreams : Int32) (v_inn_sleepers : Int32) (v_inn_listeners : Int32) (v_inn_names : Int32) (v_dawn : Nat → Int32) (v_likes : Nat → Int64) (v_fitting : Nat → Int32) (v_other : Nat → Int32) (v_inn_how : Nat → Int32) (v_inn_lies : Nat → Int32) (v_inn_isFull : Nat → Int32) (v_inn_bed : Nat → Int32) (v_inn_isTold : Nat → Int32) (v_inn_act : Nat → Int32) (v_inn_then : Nat → Int32) (v_inn_what : Nat → Int32) (v_inn_doorA : Nat → Int32) (v_inn_doorB : Nat → Int32) (v_from : Nat → Int32) (v_inn_falls : Nat → Int32) (v_inn_creak : Nat → Int32) (v_inn_listens : Nat → Int32) (v_far : Nat → Int32) (v_inn_isCold : Nat → Int32) (v_inn_met : Nat → Int32) : va_W := [(h, .inr (11, [.int v_thrown, .int v_trouble, .int v_where, .ref h_inn, va_rf v_read, .ref h_tape, .int v_taped, .int v_size, .int v_at, .int v_sort, .int v_place, .int v_sign, .int v_number, .int v_fault, .int v_wrongAt, .long v_word, .ref h_far, .ref h_from, .ref h_real, .ref h_other, .ref h_kept, .ref h_set, .ref h_real, .int v_marks, .int v_notes, .ref h_book, .ref h_noteSort, .ref h_whose, .ref h_what, .ref h_noteIs, .ref h_fitting, .ref h_dawn, .ref h_likes, .ref h_walked, .ref h_came])), (h_inn, .inr (10, [.int v_inn_minutes, .int v_inn_rooms, .int v_inn_doors, .int v_inn_things, .int v_inn_dreams, .int v_inn_sleepers, .int v_inn_listeners, .int v_inn_names, .ref h_inn_creak, .ref h_inn_doorA, .ref h_inn_doorB, .ref h_inn_how, .ref h_inn_lies, .ref h_inn_isCold, .ref h_inn_falls, .ref h_inn_isFull, .ref h_inn_isTold, .ref h_inn_act, .ref h_inn_what, .ref h_inn_then, .ref h_inn_met, .ref h_inn_bed, .ref h_inn_dream, .ref h_inn_listens, .ref h_inn_name, .ref h_inn_nameSort, .ref h_inn_nameNumber])), (h_dawn, aI E 3840 v_dawn), (h_likes, aJ E 64 v_likes), (h_fitting, aI E 64 v_fitting), (h_other, aI E 51 v_other), (h_inn_how, aI E 10 v_inn_how), (h_inn_lies, aI E 4 v_inn_lies), (h_inn_isFull, aZ E 4 v_inn_isFull), (h_inn_bed, aI E 3 v_inn_bed), (h_inn_isTold, aZ E 16 v_inn_isTold), (h_inn_act, aI E 16 v_inn_act), (h_inn_then, aI E 16 v_inn_then), (h_inn_what, aI E 16 v_inn_what), (h_inn_doorA, aI E 10 v_inn_doorA), (h_inn_doorB, aI E 10 v_inn_doorB), (h_from, aI E 8 v_from), (h_inn_falls, aZ E 10 v_inn_falls), (h_inn_creak, aI E 8 v_inn_creak), (h_inn_listens, aI E 3 v_inn_listens), (h_far, aI E 64 v_far), (h_inn_isCold, aZ E 8 v_inn_isCold), (h_inn_met, aI E 16 v_inn_met)]
def BX12_compares_83 (p0 : Int32) (N : Nat) (x75_3 : Int32) (x65_dawn : Nat → Int32) (K122 : ((Nat → Int64)) → Option ((Nat → Int32) × (Nat → Int64) × (Nat → Int32) × (Nat → Int32))) (rec83 : (Int32 × (Nat → Int64)) → Option ((Nat → Int32) × (Nat → Int64) × (Nat → Int32) × (Nat → Int32))) : (Int32 × (Nat → Int64)) → Option ((Nat → Int32) × (Nat → Int64) × (Nat → Int32) × (Nat → Int32)) := un2 fun (x83_4 : Int32) (x83_likes : Nat → Int64) => if p0 ≤ x83_4 then (K122 x83_likes) else ((fX12_isAlike N x75_3 x83_4 x65_dawn).bind (un1 fun (r_93 : Int32) => jn (un1 fun (x116_likes : Nat → Int64) => rec83 (x83_4 + 1, x116_likes)) (fun j116 => if r_93 = 0 then (gd x75_3 64 (gd x75_3 64 (j116 (vp_updL x83_likes x75_3.toNatClampNeg ((x83_likes x75_3.toNatClampNeg) &&& ((1 <<< (x83_4.toInt64 &&& 63)) ^^^ (-1))))))) else (j116 x83_likes))))
def BX12_compares_75 (p0 : Int32) (N : Nat) (x65_dawn : Nat → Int32) (K128 : ((Nat → Int64)) → Option ((Nat → Int32) × (Nat → Int64) × (Nat → Int32) × (Nat → Int32))) (rec75 : (Int32 × (Nat → Int64)) → Option ((Nat → Int32) × (Nat → Int64) × (Nat → Int32) × (Nat → Int32))) : (Int32 × (Nat → Int64)) → Option ((Nat → Int32) × (Nat → Int64) × (Nat → Int32) × (Nat → Int32)) := un2 fun (x75_3 : Int32) (x75_likes : Nat → Int64) => if p0 ≤ x75_3 then (K128 x75_likes) else (lp (BX12_compares_83 p0 N x75_3 x65_dawn (un1 fun (x122_likes : Nat → Int64) => rec75 (x75_3 + 1, x122_likes))) N (0, x75_likes))
def BX12_compares_42 (p0 : Int32) (N : Nat) (v_fitting : Nat → Int32) (x24_2 : Int32) (v_inn_minutes : Int32) (v_inn_rooms : Int32) (v_inn_doors : Int32) (v_inn_things : Int32) (v_inn_dreams : Int32) (v_inn_sleepers : Int32) (v_inn_listeners : Int32) (v_inn_how : Nat → Int32) (v_inn_lies : Nat → Int32) (v_inn_isFull : Nat → Int32) (v_inn_bed : Nat → Int32) (v_inn_isTold : Nat → Int32) (v_inn_act : Nat → Int32) (v_inn_then : Nat → Int32) (v_inn_what : Nat → Int32) (v_inn_doorA : Nat → Int32) (v_inn_doorB : Nat → Int32) (v_inn_falls : Nat → Int32) (v_inn_creak : Nat → Int32) (v_inn_listens : Nat → Int32) (v_far : Nat → Int32) (v_inn_isCold : Nat → Int32) (v_inn_met : Nat → Int32) (K65 : ((Nat → Int32) × (Nat → Int32) × (Nat → Int32)) → Option ((Nat → Int32) × (Nat → Int64) × (Nat → Int32) × (Nat → Int32))) (rec42 : (Int32 × (Nat → Int32) × (Nat → Int32) × (Nat → Int32)) → Option ((Nat → Int32) × (Nat → Int64) × (Nat → Int32) × (Nat → Int32))) : (Int32 × (Nat → Int32) × (Nat → Int32) × (Nat → Int32)) → Option ((Nat → Int32) × (Nat → Int64) × (Nat → Int32) × (Nat → Int32)) := un4 fun (x42_3 : Int32) (x42_dawn : Nat → Int32) (x42_other : Nat → Int32) (x42_from : Nat → Int32) => if p0 ≤ x42_3 then (K65 (x42_dawn, x42_other, x42_from)) else (gd x42_3 64 ((fX12_dawns N (v_fitting x42_3.toNatClampNeg) x24_2 x42_3 v_inn_minutes v_inn_rooms v_inn_doors v_inn_things v_inn_dreams v_inn_sleepers v_inn_listeners x42_other v_inn_how v_inn_lies v_inn_isFull v_inn_bed v_inn_isTold v_inn_act v_inn_then v_inn_what v_inn_doorA v_inn_doorB x42_from v_inn_falls v_inn_creak v_inn_listens v_far v_inn_isCold v_inn_met x42_dawn).bind (un3 fun (v_other_56 : Nat → Int32) (v_from_56 : Nat → Int32) (v_dawn_56 : Nat → Int32) => rec42 (x42_3 + 1, v_dawn_56, v_other_56, v_from_56))))
def BX12_compares_24 (N : Nat) (v_inn_doors : Int32) (p0 : Int32) (v_fitting : Nat → Int32) (v_inn_minutes : Int32) (v_inn_rooms : Int32) (v_inn_things : Int32) (v_inn_dreams : Int32) (v_inn_sleepers : Int32) (v_inn_listeners : Int32) (v_inn_how : Nat → Int32) (v_inn_lies : Nat → Int32) (v_inn_isFull : Nat → Int32) (v_inn_bed : Nat → Int32) (v_inn_isTold : Nat → Int32) (v_inn_act : Nat → Int32) (v_inn_then : Nat → Int32) (v_inn_what : Nat → Int32) (v_inn_doorA : Nat → Int32) (v_inn_doorB : Nat → Int32) (v_inn_falls : Nat → Int32) (v_inn_creak : Nat → Int32) (v_inn_listens : Nat → Int32) (v_far : Nat → Int32) (v_inn_isCold : Nat → Int32) (v_inn_met : Nat → Int32) (rec24 : (Int32 × (Nat → Int32) × (Nat → Int64) × (Nat → Int32) × (Nat → Int32)) → Option ((Nat → Int32) × (Nat → Int64) × (Nat → Int32) × (Nat → Int32))) : (Int32 × (Nat → Int32) × (Nat → Int64) × (Nat → Int32) × (Nat → Int32)) → Option ((Nat → Int32) × (Nat → Int64) × (Nat → Int32) × (Nat → Int32)) := un5 fun (x24_2 : Int32) (x24_dawn : Nat → Int32) (x24_likes : Nat → Int64) (x24_other : Nat → Int32) (x24_from : Nat → Int32) => (fX12_settings N v_inn_doors).bind (un1 fun (r_26 : Int32) => if r_26 ≤ x24_2 then (some (x24_dawn, x24_likes, x24_other, x24_from)) else (lp (BX12_compares_42 p0 N v_fitting x24_2 v_inn_minutes v_inn_rooms v_inn_doors v_inn_things v_inn_dreams v_inn_sleepers v_inn_listeners v_inn_how v_inn_lies v_inn_isFull v_inn_bed v_inn_isTold v_inn_act v_inn_then v_inn_what v_inn_doorA v_inn_doorB v_inn_falls v_inn_creak v_inn_listens v_far v_inn_isCold v_inn_met (un3 fun (x65_dawn : Nat → Int32) (x65_other : Nat → Int32) (x65_from : Nat → Int32) => lp (BX12_compares_75 p0 N x65_dawn (un1 fun (x128_likes : Nat → Int64) => rec24 (x24_2 + 1, x65_dawn, x128_likes, x65_other, x65_from))) N (0, x24_likes))) N (0, x24_dawn, x24_other, x24_from)))
def BX12_compares_2 (p0 : Int32) (K22 : ((Nat → Int64)) → Option ((Nat → Int32) × (Nat → Int64) × (Nat → Int32) × (Nat → Int32))) (rec2 : (Int32 × (Nat → Int64)) → Option ((Nat → Int32) × (Nat → Int64) × (Nat → Int32) × (Nat → Int32))) : (Int32 × (Nat → Int64)) → Option ((Nat → Int32) × (Nat → Int64) × (Nat → Int32) × (Nat → Int32)) := un2 fun (x2_2 : Int32) (x2_likes : Nat → Int64) => if p0 ≤ x2_2 then (K22 x2_likes) else (gd x2_2 64 (rec2 (x2_2 + 1, vp_updL x2_likes x2_2.toNatClampNeg (-1))))
def fX12_compares (N : Nat) (p0 : Int32) (v_inn_minutes : Int32) (v_inn_rooms : Int32) (v_inn_doors : Int32) (v_inn_things : Int32) (v_inn_dreams : Int32) (v_inn_sleepers : Int32) (v_inn_listeners : Int32) (v_dawn : Nat → Int32) (v_likes : Nat → Int64) (v_fitting : Nat → Int32) (v_other : Nat → Int32) (v_inn_how : Nat → Int32) (v_inn_lies : Nat → Int32) (v_inn_isFull : Nat → Int32) (v_inn_bed : Nat → Int32) (v_inn_isTold : Nat → Int32) (v_inn_act : Nat → Int32) (v_inn_then : Nat → Int32) (v_inn_what : Nat → Int32) (v_inn_doorA : Nat → Int32) (v_inn_doorB : Nat → Int32) (v_from : Nat → Int32) (v_inn_falls : Nat → Int32) (v_inn_creak : Nat → Int32) (v_inn_listens : Nat → Int32) (v_far : Nat → Int32) (v_inn_isCold : Nat → Int32) (v_inn_met : Nat → Int32) : Option ((Nat → Int32) × (Nat → Int64) × (Nat → Int32) × (Nat → Int32)) := lp (BX12_compares_2 p0 (un1 fun (x22_likes : Nat → Int64) => lp (BX12_compares_24 N v_inn_doors p0 v_fitting v_inn_minutes v_inn_rooms v_inn_things v_inn_dreams v_inn_sleepers v_inn_listeners v_inn_how v_inn_lies v_inn_isFull v_inn_bed v_inn_isTold v_inn_act v_inn_then v_inn_what v_inn_doorA v_inn_doorB v_inn_falls v_inn_creak v_inn_listens v_far v_inn_isCold v_inn_met) N (0, v_dawn, x22_likes, v_other, v_from))) N (0, v_likes)
set_option maxHeartbeats 4000000 in
set_option maxRecDepth 100000 in
theorem ctX12_compares (l : Launch) (E : EN) (h h_inn h_tape h_far h_from h_real h_other h_kept h_set h_book h_noteSort h_whose h_what h_noteIs h_fitting h_dawn h_likes h_walked h_came h_inn_creak h_inn_doorA h_inn_doorB h_inn_how h_inn_lies h_inn_isCold h_inn_falls h_inn_isFull h_inn_isTold h_inn_act h_inn_what h_inn_then h_inn_met h_inn_bed h_inn_dream h_inn_listens h_inn_name h_inn_nameSort h_inn_nameNumber : Nat) (v_thrown : Int32) (v_trouble : Int32) (v_where : Int32) (v_read : Option Nat) (v_taped : Int32) (v_size : Int32) (v_at : Int32) (v_sort : Int32) (v_place : Int32) (v_sign : Int32) (v_number : Int32) (v_fault : Int32) (v_wrongAt : Int32) (v_word : Int64) (v_marks : Int32) (v_notes : Int32) (v_inn_minutes : Int32) (v_inn_rooms : Int32) (v_inn_doors : Int32) (v_inn_things : Int32) (v_inn_dreams : Int32) (v_inn_sleepers : Int32) (v_inn_listeners : Int32) (v_inn_names : Int32) (v_dawn : Nat → Int32) (v_likes : Nat → Int64) (v_fitting : Nat → Int32) (v_other : Nat → Int32) (v_inn_how : Nat → Int32) (v_inn_lies : Nat → Int32) (v_inn_isFull : Nat → Int32) (v_inn_bed : Nat → Int32) (v_inn_isTold : Nat → Int32) (v_inn_act : Nat → Int32) (v_inn_then : Nat → Int32) (v_inn_what : Nat → Int32) (v_inn_doorA : Nat → Int32) (v_inn_doorB : Nat → Int32) (v_from : Nat → Int32) (v_inn_falls : Nat → Int32) (v_inn_creak : Nat → Int32) (v_inn_listens : Nat → Int32) (v_far : Nat → Int32) (v_inn_isCold : Nat → Int32) (v_inn_met : Nat → Int32) (N : Nat) (p0 : Int32) (z : (Nat → Int32) × (Nat → Int64) × (Nat → Int32) × (Nat → Int32)) (hf : fX12_compares N p0 v_inn_minutes v_inn_rooms v_inn_doors v_inn_things v_inn_dreams v_inn_sleepers v_inn_listeners v_dawn v_likes v_fitting v_other v_inn_how v_inn_lies v_inn_isFull v_inn_bed v_inn_isTold v_inn_act v_inn_then v_inn_what v_inn_doorA v_inn_doorB v_from v_inn_falls v_inn_creak v_inn_listens v_far v_inn_isCold v_inn_met = some z) : CTv l E yX12_compares cX12_compares 5 8 185 [.ref h, .int p0] (wX12_compares E h h_inn h_tape h_far h_from h_real h_other h_kept h_set h_book h_noteSort h_whose h_what h_noteIs h_fitting h_dawn h_likes h_walked h_came h_inn_creak h_inn_doorA h_inn_doorB h_inn_how h_inn_lies h_inn_isCold h_inn_falls h_inn_isFull h_inn_isTold h_inn_act h_inn_what h_inn_then h_inn_met h_inn_bed h_inn_dream h_inn_listens h_inn_name h_inn_nameSort h_inn_nameNumber v_thrown v_trouble v_where v_read v_taped v_size v_at v_sort v_place v_sign v_number v_fault v_wrongAt v_word v_marks v_notes v_inn_minutes v_inn_rooms v_inn_doors v_inn_things v_inn_dreams v_inn_sleepers v_inn_listeners v_inn_names v_dawn v_likes v_fitting v_other v_inn_how v_inn_lies v_inn_isFull v_inn_bed v_inn_isTold v_inn_act v_inn_then v_inn_what v_inn_doorA v_inn_doorB v_from v_inn_falls v_inn_creak v_inn_listens v_far v_inn_isCold v_inn_met) (wX12_compares E h h_inn h_tape h_far h_from h_real h_other h_kept h_set h_book h_noteSort h_whose h_what h_noteIs h_fitting h_dawn h_likes h_walked h_came h_inn_creak h_inn_doorA h_inn_doorB h_inn_how h_inn_lies h_inn_isCold h_inn_falls h_inn_isFull h_inn_isTold h_inn_act h_inn_what h_inn_then h_inn_met h_inn_bed h_inn_dream h_inn_listens h_inn_name h_inn_nameSort h_inn_nameNumber v_thrown v_trouble v_where v_read v_taped v_size v_at v_sort v_place v_sign v_number v_fault v_wrongAt v_word v_marks v_notes v_inn_minutes v_inn_rooms v_inn_doors v_inn_things v_inn_dreams v_inn_sleepers v_inn_listeners v_inn_names z.1 z.2.1 v_fitting z.2.2.1 v_inn_how v_inn_lies v_inn_isFull v_inn_bed v_inn_isTold v_inn_act v_inn_then v_inn_what v_inn_doorA v_inn_doorB z.2.2.2 v_inn_falls v_inn_creak v_inn_listens v_far v_inn_isCold v_inn_met) := by
  intro sz
  refine ct_body (by decide) (Nat.le_of_ble_eq_true rfl) ?_
  intro p e s m args below meth c A ls hAe C hr hin hP hD hS hl
  have C : CX p s m args meth c cX12_compares RX12 5 E A := C
  have hl : lv_has ls 5 [(0, .ref h), (1, .int p0)] := hl
  have hx := C.1
  have hb := C.2.1
  rw [hAe]
  clear hAe
  obtain ⟨Q, hQ⟩ : ∃ Q, Q = MQ below (Qv E A (wX12_compares E h h_inn h_tape h_far h_from h_real h_other h_kept h_set h_book h_noteSort h_whose h_what h_noteIs h_fitting h_dawn h_likes h_walked h_came h_inn_creak h_inn_doorA h_inn_doorB h_inn_how h_inn_lies h_inn_isCold h_inn_falls h_inn_isFull h_inn_isTold h_inn_act h_inn_what h_inn_then h_inn_met h_inn_bed h_inn_dream h_inn_listens h_inn_name h_inn_nameSort h_inn_nameNumber v_thrown v_trouble v_where v_read v_taped v_size v_at v_sort v_place v_sign v_number v_fault v_wrongAt v_word v_marks v_notes v_inn_minutes v_inn_rooms v_inn_doors v_inn_things v_inn_dreams v_inn_sleepers v_inn_listeners v_inn_names z.1 z.2.1 v_fitting z.2.2.1 v_inn_how v_inn_lies v_inn_isFull v_inn_bed v_inn_isTold v_inn_act v_inn_then v_inn_what v_inn_doorA v_inn_doorB z.2.2.2 v_inn_falls v_inn_creak v_inn_listens v_far v_inn_isCold v_inn_met)) args s 0 0 A := ⟨_, rfl⟩
  rw [← hQ]
  unfold fX12_compares at hf
  refine lv_iconst (pc := 0) (v := 0) hx hb dX12_compares_0 (by decide) ?_
  refine lv_istore_n (pc := 1) (lv' := [(2, .int 0), (0, .ref h), (1, .int p0)]) hx hb dX12_compares_1 rfl hl (by decide) rfl (fun ls hl => ?_)
  refine lpK hf (fun K22 eK22 hf => ?_)
  have hK22 : ∀ (x22_likes : Nat → Int64) , K22 x22_likes = some z → AT p l e (rmOf 8 185) s m args below meth c E A Q 0 0 5 [(0, .ref h), (1, .int p0)] (wX12_compares E h h_inn h_tape h_far h_from h_real h_other h_kept h_set h_book h_noteSort h_whose h_what h_noteIs h_fitting h_dawn h_likes h_walked h_came h_inn_creak h_inn_doorA h_inn_doorB h_inn_how h_inn_lies h_inn_isCold h_inn_falls h_inn_isFull h_inn_isTold h_inn_act h_inn_what h_inn_then h_inn_met h_inn_bed h_inn_dream h_inn_listens h_inn_name h_inn_nameSort h_inn_nameNumber v_thrown v_trouble v_where v_read v_taped v_size v_at v_sort v_place v_sign v_number v_fault v_wrongAt v_word v_marks v_notes v_inn_minutes v_inn_rooms v_inn_doors v_inn_things v_inn_dreams v_inn_sleepers v_inn_listeners v_inn_names v_dawn x22_likes v_fitting v_other v_inn_how v_inn_lies v_inn_isFull v_inn_bed v_inn_isTold v_inn_act v_inn_then v_inn_what v_inn_doorA v_inn_doorB v_from v_inn_falls v_inn_creak v_inn_listens v_far v_inn_isCold v_inn_met) 22 [] := by
    intro x22_likes hf H locs ls hl hP hD hS
    rw [eK22] at hf
    replace hf := un1_s hf
    refine lv_iconst (pc := 22) (v := 0) hx hb dX12_compares_22 (by decide) ?_
    refine lv_istore_n (pc := 23) (lv' := [(2, .int 0), (0, .ref h), (1, .int p0)]) hx hb dX12_compares_23 rfl hl (by decide) rfl (fun ls hl => ?_)
    have key24 : ∀ (n : Nat) (x24_2 : Int32) (x24_dawn : Nat → Int32) (x24_likes : Nat → Int64) (x24_other : Nat → Int32) (x24_from : Nat → Int32) , lp (BX12_compares_24 N v_inn_doors p0 v_fitting v_inn_minutes v_inn_rooms v_inn_things v_inn_dreams v_inn_sleepers v_inn_listeners v_inn_how v_inn_lies v_inn_isFull v_inn_bed v_inn_isTold v_inn_act v_inn_then v_inn_what v_inn_doorA v_inn_doorB v_inn_falls v_inn_creak v_inn_listens v_far v_inn_isCold v_inn_met) n (x24_2, x24_dawn, x24_likes, x24_other, x24_from) = some z → AT p l e (rmOf 8 185) s m args below meth c E A Q 0 0 5 [(0, .ref h), (1, .int p0), (2, .int x24_2)] (wX12_compares E h h_inn h_tape h_far h_from h_real h_other h_kept h_set h_book h_noteSort h_whose h_what h_noteIs h_fitting h_dawn h_likes h_walked h_came h_inn_creak h_inn_doorA h_inn_doorB h_inn_how h_inn_lies h_inn_isCold h_inn_falls h_inn_isFull h_inn_isTold h_inn_act h_inn_what h_inn_then h_inn_met h_inn_bed h_inn_dream h_inn_listens h_inn_name h_inn_nameSort h_inn_nameNumber v_thrown v_trouble v_where v_read v_taped v_size v_at v_sort v_place v_sign v_number v_fault v_wrongAt v_word v_marks v_notes v_inn_minutes v_inn_rooms v_inn_doors v_inn_things v_inn_dreams v_inn_sleepers v_inn_listeners v_inn_names x24_dawn x24_likes v_fitting x24_other v_inn_how v_inn_lies v_inn_isFull v_inn_bed v_inn_isTold v_inn_act v_inn_then v_inn_what v_inn_doorA v_inn_doorB x24_from v_inn_falls v_inn_creak v_inn_listens v_far v_inn_isCold v_inn_met) 24 [] := by
      intro n
      induction n with
      | zero => intro x24_2 x24_dawn x24_likes x24_other x24_from hf; exact (lp_0 hf).elim
      | succ n ih24 =>
        intro x24_2 x24_dawn x24_likes x24_other x24_from hf H locs ls hl hP hD hS
        replace hf := lp_s hf
        generalize lp (BX12_compares_24 N v_inn_doors p0 v_fitting v_inn_minutes v_inn_rooms v_inn_things v_inn_dreams v_inn_sleepers v_inn_listeners v_inn_how v_inn_lies v_inn_isFull v_inn_bed v_inn_isTold v_inn_act v_inn_then v_inn_what v_inn_doorA v_inn_doorB v_inn_falls v_inn_creak v_inn_listens v_far v_inn_isCold v_inn_met) n = rec24 at ih24 hf
        unfold BX12_compares_24 at hf
        replace hf := un5_s hf
        refine lv_iload_n (pc := 24) hx hb dX12_compares_24 rfl (lv_at hl 2 rfl) ?_
        refine lv_aload_n (pc := 25) hx hb dX12_compares_25 rfl (lv_at hl 0 rfl) ?_
        obtain ⟨r_26, hc_26, hf⟩ := bd1 hf
        refine r_dalVi (pc := 26) (ws' := (wX12_compares E h h_inn h_tape h_far h_from h_real h_other h_kept h_set h_book h_noteSort h_whose h_what h_noteIs h_fitting h_dawn h_likes h_walked h_came h_inn_creak h_inn_doorA h_inn_doorB h_inn_how h_inn_lies h_inn_isCold h_inn_falls h_inn_isFull h_inn_isTold h_inn_act h_inn_what h_inn_then h_inn_met h_inn_bed h_inn_dream h_inn_listens h_inn_name h_inn_nameSort h_inn_nameNumber v_thrown v_trouble v_where v_read v_taped v_size v_at v_sort v_place v_sign v_number v_fault v_wrongAt v_word v_marks v_notes v_inn_minutes v_inn_rooms v_inn_doors v_inn_things v_inn_dreams v_inn_sleepers v_inn_listeners v_inn_names x24_dawn x24_likes v_fitting x24_other v_inn_how v_inn_lies v_inn_isFull v_inn_bed v_inn_isTold v_inn_act v_inn_then v_inn_what v_inn_doorA v_inn_doorB x24_from v_inn_falls v_inn_creak v_inn_listens v_far v_inn_isCold v_inn_met)) (As := []) (rest := [.int x24_2]) C (ctX12_settings l E h h_inn h_tape h_far h_from h_real h_other h_kept h_set h_real h_book h_noteSort h_whose h_what h_noteIs h_fitting h_dawn h_likes h_walked h_came h_inn_creak h_inn_doorA h_inn_doorB h_inn_how h_inn_lies h_inn_isCold h_inn_falls h_inn_isFull h_inn_isTold h_inn_act h_inn_what h_inn_then h_inn_met h_inn_bed h_inn_dream h_inn_listens h_inn_name h_inn_nameSort h_inn_nameNumber v_thrown v_trouble v_where v_read v_taped v_size v_at v_sort v_place v_sign v_number v_fault v_wrongAt v_word v_marks v_notes v_inn_minutes v_inn_rooms v_inn_doors v_inn_things v_inn_dreams v_inn_sleepers v_inn_listeners v_inn_names N r_26 hc_26) ml_X12_385 ⟨Nat.le_of_ble_eq_true rfl, Nat.le_of_ble_eq_true rfl⟩ hP hD hS 0 rfl rfl rfl [0, 1] [23, 24, 2, 3, 4, 5, 6, 7, 8, 9, 10, 11, 12, 13, 14, 15, 16, 17, 18, 19, 20, 21, 22] 23 rfl rfl rfl rfl rfl rfl rfl hl.1 rfl (Nat.le_of_ble_eq_true rfl) ⟨Nat.zero_le _, Nat.zero_le _⟩ dX12_compares_26 ?_
        clear hP hD hS; intro H locs hP hD hS
        refine lv_icmp_ge (pc := 29) (tgt := 134) hx hb dX12_compares_29 (by decide) (fun c_29 => ?_) (fun c_29 => ?_)
        · replace hf := it_t c_29 hf
          cases hf
          rw [hQ]
          exact r_vret C hr hP hD hS dX12_compares_134
        · replace hf := it_f c_29 hf
          refine lv_aload_n (pc := 32) hx hb dX12_compares_32 rfl (lv_at hl 0 rfl) ?_
          refine lv_aload_n (pc := 33) hx hb dX12_compares_33 rfl (lv_at hl 0 rfl) ?_
          refine r_get (pc := 34) C hP 0 rfl fl_X12_27 rfl dX12_compares_34 ?_
          refine r_put (pc := 37) (ws' := [(h, .inr (11, [.int v_thrown, .int v_trouble, .int v_where, .ref h_inn, va_rf v_read, .ref h_tape, .int v_taped, .int v_size, .int v_at, .int v_sort, .int v_place, .int v_sign, .int v_number, .int v_fault, .int v_wrongAt, .long v_word, .ref h_far, .ref h_from, .ref h_real, .ref h_other, .ref h_kept, .ref h_set, .ref h_other, .int v_marks, .int v_notes, .ref h_book, .ref h_noteSort, .ref h_whose, .ref h_what, .ref h_noteIs, .ref h_fitting, .ref h_dawn, .ref h_likes, .ref h_walked, .ref h_came])), (h_inn, .inr (10, [.int v_inn_minutes, .int v_inn_rooms, .int v_inn_doors, .int v_inn_things, .int v_inn_dreams, .int v_inn_sleepers, .int v_inn_listeners, .int v_inn_names, .ref h_inn_creak, .ref h_inn_doorA, .ref h_inn_doorB, .ref h_inn_how, .ref h_inn_lies, .ref h_inn_isCold, .ref h_inn_falls, .ref h_inn_isFull, .ref h_inn_isTold, .ref h_inn_act, .ref h_inn_what, .ref h_inn_then, .ref h_inn_met, .ref h_inn_bed, .ref h_inn_dream, .ref h_inn_listens, .ref h_inn_name, .ref h_inn_nameSort, .ref h_inn_nameNumber])), (h_dawn, aI E 3840 x24_dawn), (h_likes, aJ E 64 x24_likes), (h_fitting, aI E 64 v_fitting), (h_other, aI E 51 x24_other), (h_inn_how, aI E 10 v_inn_how), (h_inn_lies, aI E 4 v_inn_lies), (h_inn_isFull, aZ E 4 v_inn_isFull), (h_inn_bed, aI E 3 v_inn_bed), (h_inn_isTold, aZ E 16 v_inn_isTold), (h_inn_act, aI E 16 v_inn_act), (h_inn_then, aI E 16 v_inn_then), (h_inn_what, aI E 16 v_inn_what), (h_inn_doorA, aI E 10 v_inn_doorA), (h_inn_doorB, aI E 10 v_inn_doorB), (h_from, aI E 8 x24_from), (h_inn_falls, aZ E 10 v_inn_falls), (h_inn_creak, aI E 8 v_inn_creak), (h_inn_listens, aI E 3 v_inn_listens), (h_far, aI E 64 v_far), (h_inn_isCold, aZ E 8 v_inn_isCold), (h_inn_met, aI E 16 v_inn_met)]) C hP hD hS 0 rfl fl_X12_36 rfl rfl (Nat.le_of_ble_eq_true rfl) rfl dX12_compares_37 ?_
          clear hP hD hS; intro H locs hP hD hS
          refine lv_iconst (pc := 40) (v := 0) hx hb dX12_compares_40 (by decide) ?_
          refine lv_istore_n (pc := 41) (lv' := [(3, .int 0), (0, .ref h), (1, .int p0), (2, .int x24_2)]) hx hb dX12_compares_41 rfl hl (by decide) rfl (fun ls hl => ?_)
          refine lpK hf (fun K65 eK65 hf => ?_)
          have hK65 : ∀ (x65_dawn : Nat → Int32) (x65_other : Nat → Int32) (x65_from : Nat → Int32) , K65 (x65_dawn, x65_other, x65_from) = some z → AT p l e (rmOf 8 185) s m args below meth c E A Q 0 0 5 [(0, .ref h), (1, .int p0), (2, .int x24_2)] [(h, .inr (11, [.int v_thrown, .int v_trouble, .int v_where, .ref h_inn, va_rf v_read, .ref h_tape, .int v_taped, .int v_size, .int v_at, .int v_sort, .int v_place, .int v_sign, .int v_number, .int v_fault, .int v_wrongAt, .long v_word, .ref h_far, .ref h_from, .ref h_real, .ref h_other, .ref h_kept, .ref h_set, .ref h_other, .int v_marks, .int v_notes, .ref h_book, .ref h_noteSort, .ref h_whose, .ref h_what, .ref h_noteIs, .ref h_fitting, .ref h_dawn, .ref h_likes, .ref h_walked, .ref h_came])), (h_inn, .inr (10, [.int v_inn_minutes, .int v_inn_rooms, .int v_inn_doors, .int v_inn_things, .int v_inn_dreams, .int v_inn_sleepers, .int v_inn_listeners, .int v_inn_names, .ref h_inn_creak, .ref h_inn_doorA, .ref h_inn_doorB, .ref h_inn_how, .ref h_inn_lies, .ref h_inn_isCold, .ref h_inn_falls, .ref h_inn_isFull, .ref h_inn_isTold, .ref h_inn_act, .ref h_inn_what, .ref h_inn_then, .ref h_inn_met, .ref h_inn_bed, .ref h_inn_dream, .ref h_inn_listens, .ref h_inn_name, .ref h_inn_nameSort, .ref h_inn_nameNumber])), (h_dawn, aI E 3840 x65_dawn), (h_likes, aJ E 64 x24_likes), (h_fitting, aI E 64 v_fitting), (h_other, aI E 51 x65_other), (h_inn_how, aI E 10 v_inn_how), (h_inn_lies, aI E 4 v_inn_lies), (h_inn_isFull, aZ E 4 v_inn_isFull), (h_inn_bed, aI E 3 v_inn_bed), (h_inn_isTold, aZ E 16 v_inn_isTold), (h_inn_act, aI E 16 v_inn_act), (h_inn_then, aI E 16 v_inn_then), (h_inn_what, aI E 16 v_inn_what), (h_inn_doorA, aI E 10 v_inn_doorA), (h_inn_doorB, aI E 10 v_inn_doorB), (h_from, aI E 8 x65_from), (h_inn_falls, aZ E 10 v_inn_falls), (h_inn_creak, aI E 8 v_inn_creak), (h_inn_listens, aI E 3 v_inn_listens), (h_far, aI E 64 v_far), (h_inn_isCold, aZ E 8 v_inn_isCold), (h_inn_met, aI E 16 v_inn_met)] 65 [] := by
            intro x65_dawn x65_other x65_from hf H locs ls hl hP hD hS
            rw [eK65] at hf
            replace hf := un3_s hf
            refine lv_aload_n (pc := 65) hx hb dX12_compares_65 rfl (lv_at hl 0 rfl) ?_
            refine lv_aload_n (pc := 66) hx hb dX12_compares_66 rfl (lv_at hl 0 rfl) ?_
            refine r_get (pc := 67) C hP 0 rfl fl_X12_24 rfl dX12_compares_67 ?_
            refine r_put (pc := 70) (ws' := (wX12_compares E h h_inn h_tape h_far h_from h_real h_other h_kept h_set h_book h_noteSort h_whose h_what h_noteIs h_fitting h_dawn h_likes h_walked h_came h_inn_creak h_inn_doorA h_inn_doorB h_inn_how h_inn_lies h_inn_isCold h_inn_falls h_inn_isFull h_inn_isTold h_inn_act h_inn_what h_inn_then h_inn_met h_inn_bed h_inn_dream h_inn_listens h_inn_name h_inn_nameSort h_inn_nameNumber v_thrown v_trouble v_where v_read v_taped v_size v_at v_sort v_place v_sign v_number v_fault v_wrongAt v_word v_marks v_notes v_inn_minutes v_inn_rooms v_inn_doors v_inn_things v_inn_dreams v_inn_sleepers v_inn_listeners v_inn_names x65_dawn x24_likes v_fitting x65_other v_inn_how v_inn_lies v_inn_isFull v_inn_bed v_inn_isTold v_inn_act v_inn_then v_inn_what v_inn_doorA v_inn_doorB x65_from v_inn_falls v_inn_creak v_inn_listens v_far v_inn_isCold v_inn_met)) C hP hD hS 0 rfl fl_X12_36 rfl rfl (Nat.le_of_ble_eq_true rfl) rfl dX12_compares_70 ?_
            clear hP hD hS; intro H locs hP hD hS
            refine lv_iconst (pc := 73) (v := 0) hx hb dX12_compares_73 (by decide) ?_
            refine lv_istore_n (pc := 74) (lv' := [(3, .int 0), (0, .ref h), (1, .int p0), (2, .int x24_2)]) hx hb dX12_compares_74 rfl hl (by decide) rfl (fun ls hl => ?_)
            refine lpK hf (fun K128 eK128 hf => ?_)
            have hK128 : ∀ (x128_likes : Nat → Int64) , K128 x128_likes = some z → AT p l e (rmOf 8 185) s m args below meth c E A Q 0 0 5 [(0, .ref h), (1, .int p0), (2, .int x24_2)] (wX12_compares E h h_inn h_tape h_far h_from h_real h_other h_kept h_set h_book h_noteSort h_whose h_what h_noteIs h_fitting h_dawn h_likes h_walked h_came h_inn_creak h_inn_doorA h_inn_doorB h_inn_how h_inn_lies h_inn_isCold h_inn_falls h_inn_isFull h_inn_isTold h_inn_act h_inn_what h_inn_then h_inn_met h_inn_bed h_inn_dream h_inn_listens h_inn_name h_inn_nameSort h_inn_nameNumber v_thrown v_trouble v_where v_read v_taped v_size v_at v_sort v_place v_sign v_number v_fault v_wrongAt v_word v_marks v_notes v_inn_minutes v_inn_rooms v_inn_doors v_inn_things v_inn_dreams v_inn_sleepers v_inn_listeners v_inn_names x65_dawn x128_likes v_fitting x65_other v_inn_how v_inn_lies v_inn_isFull v_inn_bed v_inn_isTold v_inn_act v_inn_then v_inn_what v_inn_doorA v_inn_doorB x65_from v_inn_falls v_inn_creak v_inn_listens v_far v_inn_isCold v_inn_met) 128 [] := by
              intro x128_likes hf H locs ls hl hP hD hS
              rw [eK128] at hf
              replace hf := un1_s hf
              refine lv_iinc (pc := 128) (v := x24_2 + 1) (lv' := [(2, .int (x24_2 + 1)), (0, .ref h), (1, .int p0)]) hx hb dX12_compares_128 hl (k := 2) rfl rfl (by decide) rfl (fun ls hl => ?_)
              refine lv_goto (pc := 131) (tgt := 24) hx hb dX12_compares_131 (by decide) ?_
              exact ih24 (x24_2 + 1) x65_dawn x128_likes x65_other x65_from hf _ _ _ (lv_sub hl [1, 2, 0] rfl) hP hD hS
            clear eK128
            have key75 : ∀ (n : Nat) (x75_3 : Int32) (x75_likes : Nat → Int64) , lp (BX12_compares_75 p0 N x65_dawn K128) n (x75_3, x75_likes) = some z → AT p l e (rmOf 8 185) s m args below meth c E A Q 0 0 5 [(0, .ref h), (1, .int p0), (2, .int x24_2), (3, .int x75_3)] (wX12_compares E h h_inn h_tape h_far h_from h_real h_other h_kept h_set h_book h_noteSort h_whose h_what h_noteIs h_fitting h_dawn h_likes h_walked h_came h_inn_creak h_inn_doorA h_inn_doorB h_inn_how h_inn_lies h_inn_isCold h_inn_falls h_inn_isFull h_inn_isTold h_inn_act h_inn_what h_inn_then h_inn_met h_inn_bed h_inn_dream h_inn_listens h_inn_name h_inn_nameSort h_inn_nameNumber v_thrown v_trouble v_where v_read v_taped v_size v_at v_sort v_place v_sign v_number v_fault v_wrongAt v_word v_marks v_notes v_inn_minutes v_inn_rooms v_inn_doors v_inn_things v_inn_dreams v_inn_sleepers v_inn_listeners v_inn_names x65_dawn x75_likes v_fitting x65_other v_inn_how v_inn_lies v_inn_isFull v_inn_bed v_inn_isTold v_inn_act v_inn_then v_inn_what v_inn_doorA v_inn_doorB x65_from v_inn_falls v_inn_creak v_inn_listens v_far v_inn_isCold v_inn_met) 75 [] := by
              intro n
              induction n with
              | zero => intro x75_3 x75_likes hf; exact (lp_0 hf).elim
              | succ n ih75 =>
                intro x75_3 x75_likes hf H locs ls hl hP hD hS
                replace hf := lp_s hf
                generalize lp (BX12_compares_75 p0 N x65_dawn K128) n = rec75 at ih75 hf
                unfold BX12_compares_75 at hf
                replace hf := un2_s hf
                refine lv_iload_n (pc := 75) hx hb dX12_compares_75 rfl (lv_at hl 3 rfl) ?_
                refine lv_iload_n (pc := 76) hx hb dX12_compares_76 rfl (lv_at hl 1 rfl) ?_
                refine lv_icmp_ge (pc := 77) (tgt := 128) hx hb dX12_compares_77 (by decide) (fun c_77 => ?_) (fun c_77 => ?_)
                · replace hf := it_t c_77 hf
                  exact hK128 x75_likes hf _ _ _ (lv_sub hl [0, 1, 2] rfl) hP hD hS
                · replace hf := it_f c_77 hf
                  refine lv_iconst (pc := 80) (v := 0) hx hb dX12_compares_80 (by decide) ?_
                  refine lv_istore (pc := 81) (lv' := [(4, .int 0), (0, .ref h), (1, .int p0), (2, .int x24_2), (3, .int x75_3)]) hx hb dX12_compares_81 hl (by decide) rfl (fun ls hl => ?_)
                  refine lpK hf (fun K122 eK122 hf => ?_)
                  have hK122 : ∀ (x122_likes : Nat → Int64) , K122 x122_likes = some z → AT p l e (rmOf 8 185) s m args below meth c E A Q 0 0 5 [(0, .ref h), (1, .int p0), (2, .int x24_2), (3, .int x75_3)] (wX12_compares E h h_inn h_tape h_far h_from h_real h_other h_kept h_set h_book h_noteSort h_whose h_what h_noteIs h_fitting h_dawn h_likes h_walked h_came h_inn_creak h_inn_doorA h_inn_doorB h_inn_how h_inn_lies h_inn_isCold h_inn_falls h_inn_isFull h_inn_isTold h_inn_act h_inn_what h_inn_then h_inn_met h_inn_bed h_inn_dream h_inn_listens h_inn_name h_inn_nameSort h_inn_nameNumber v_thrown v_trouble v_where v_read v_taped v_size v_at v_sort v_place v_sign v_number v_fault v_wrongAt v_word v_marks v_notes v_inn_minutes v_inn_rooms v_inn_doors v_inn_things v_inn_dreams v_inn_sleepers v_inn_listeners v_inn_names x65_dawn x122_likes v_fitting x65_other v_inn_how v_inn_lies v_inn_isFull v_inn_bed v_inn_isTold v_inn_act v_inn_then v_inn_what v_inn_doorA v_inn_doorB x65_from v_inn_falls v_inn_creak v_inn_listens v_far v_inn_isCold v_inn_met) 122 [] := by
                    intro x122_likes hf H locs ls hl hP hD hS
                    rw [eK122] at hf
                    replace hf := un1_s hf
                    refine lv_iinc (pc := 122) (v := x75_3 + 1) (lv' := [(3, .int (x75_3 + 1)), (0, .ref h), (1, .int p0), (2, .int x24_2)]) hx hb dX12_compares_122 hl (k := 3) rfl rfl (by decide) rfl (fun ls hl => ?_)
                    refine lv_goto (pc := 125) (tgt := 75) hx hb dX12_compares_125 (by decide) ?_
                    exact ih75 (x75_3 + 1) x122_likes hf _ _ _ (lv_sub hl [1, 2, 3, 0] rfl) hP hD hS
                  clear eK122
                  have key83 : ∀ (n : Nat) (x83_4 : Int32) (x83_likes : Nat → Int64) , lp (BX12_compares_83 p0 N x75_3 x65_dawn K122) n (x83_4, x83_likes) = some z → AT p l e (rmOf 8 185) s m args below meth c E A Q 0 0 5 [(0, .ref h), (1, .int p0), (2, .int x24_2), (3, .int x75_3), (4, .int x83_4)] (wX12_compares E h h_inn h_tape h_far h_from h_real h_other h_kept h_set h_book h_noteSort h_whose h_what h_noteIs h_fitting h_dawn h_likes h_walked h_came h_inn_creak h_inn_doorA h_inn_doorB h_inn_how h_inn_lies h_inn_isCold h_inn_falls h_inn_isFull h_inn_isTold h_inn_act h_inn_what h_inn_then h_inn_met h_inn_bed h_inn_dream h_inn_listens h_inn_name h_inn_nameSort h_inn_nameNumber v_thrown v_trouble v_where v_read v_taped v_size v_at v_sort v_place v_sign v_number v_fault v_wrongAt v_word v_marks v_notes v_inn_minutes v_inn_rooms v_inn_doors v_inn_things v_inn_dreams v_inn_sleepers v_inn_listeners v_inn_names x65_dawn x83_likes v_fitting x65_other v_inn_how v_inn_lies v_inn_isFull v_inn_bed v_inn_isTold v_inn_act v_inn_then v_inn_what v_inn_doorA v_inn_doorB x65_from v_inn_falls v_inn_creak v_inn_listens v_far v_inn_isCold v_inn_met) 83 [] := by
                    intro n
                    induction n with
                    | zero => intro x83_4 x83_likes hf; exact (lp_0 hf).elim
                    | succ n ih83 =>
                      intro x83_4 x83_likes hf H locs ls hl hP hD hS
                      replace hf := lp_s hf
                      generalize lp (BX12_compares_83 p0 N x75_3 x65_dawn K122) n = rec83 at ih83 hf
                      unfold BX12_compares_83 at hf
                      replace hf := un2_s hf
                      refine lv_iload (pc := 83) hx hb dX12_compares_83 (lv_at hl 4 rfl) ?_
                      refine lv_iload_n (pc := 85) hx hb dX12_compares_85 rfl (lv_at hl 1 rfl) ?_
                      refine lv_icmp_ge (pc := 86) (tgt := 122) hx hb dX12_compares_86 (by decide) (fun c_86 => ?_) (fun c_86 => ?_)
                      · replace hf := it_t c_86 hf
                        exact hK122 x83_likes hf _ _ _ (lv_sub hl [0, 1, 2, 3] rfl) hP hD hS
                      · replace hf := it_f c_86 hf
                        refine lv_aload_n (pc := 89) hx hb dX12_compares_89 rfl (lv_at hl 0 rfl) ?_
                        refine lv_iload_n (pc := 90) hx hb dX12_compares_90 rfl (lv_at hl 3 rfl) ?_
                        refine lv_iload (pc := 91) hx hb dX12_compares_91 (lv_at hl 4 rfl) ?_
                        obtain ⟨r_93, hc_93, hf⟩ := bd1 hf
                        refine r_dalVi (pc := 93) (ws' := (wX12_compares E h h_inn h_tape h_far h_from h_real h_other h_kept h_set h_book h_noteSort h_whose h_what h_noteIs h_fitting h_dawn h_likes h_walked h_came h_inn_creak h_inn_doorA h_inn_doorB h_inn_how h_inn_lies h_inn_isCold h_inn_falls h_inn_isFull h_inn_isTold h_inn_act h_inn_what h_inn_then h_inn_met h_inn_bed h_inn_dream h_inn_listens h_inn_name h_inn_nameSort h_inn_nameNumber v_thrown v_trouble v_where v_read v_taped v_size v_at v_sort v_place v_sign v_number v_fault v_wrongAt v_word v_marks v_notes v_inn_minutes v_inn_rooms v_inn_doors v_inn_things v_inn_dreams v_inn_sleepers v_inn_listeners v_inn_names x65_dawn x83_likes v_fitting x65_other v_inn_how v_inn_lies v_inn_isFull v_inn_bed v_inn_isTold v_inn_act v_inn_then v_inn_what v_inn_doorA v_inn_doorB x65_from v_inn_falls v_inn_creak v_inn_listens v_far v_inn_isCold v_inn_met)) (As := [.int x75_3, .int x83_4]) (rest := []) C (ctX12_isAlike l E h h_tape h_far h_from h_real h_other h_kept h_set h_real h_book h_noteSort h_whose h_what h_noteIs h_fitting h_dawn h_likes h_walked h_came v_thrown v_trouble v_where (some h_inn) v_read v_taped v_size v_at v_sort v_place v_sign v_number v_fault v_wrongAt v_word v_marks v_notes x65_dawn N x75_3 x83_4 r_93 hc_93) ml_X12_474 ⟨Nat.le_of_ble_eq_true rfl, Nat.le_of_ble_eq_true rfl⟩ hP hD hS 0 rfl rfl rfl [0, 2] [23, 1, 24, 3, 4, 5, 6, 7, 8, 9, 10, 11, 12, 13, 14, 15, 16, 17, 18, 19, 20, 21, 22] 23 rfl rfl rfl rfl rfl rfl rfl hl.1 rfl (Nat.le_of_ble_eq_true rfl) ⟨Nat.zero_le _, Nat.zero_le _⟩ dX12_compares_93 ?_
                        clear hP hD hS; intro H locs hP hD hS
                        refine jnK hf (fun j116 ej116 hf => ?_)
                        have hj116 : ∀ (x116_likes : Nat → Int64) , j116 x116_likes = some z → AT p l e (rmOf 8 185) s m args below meth c E A Q 0 0 5 [(0, .ref h), (1, .int p0), (2, .int x24_2), (3, .int x75_3), (4, .int x83_4)] (wX12_compares E h h_inn h_tape h_far h_from h_real h_other h_kept h_set h_book h_noteSort h_whose h_what h_noteIs h_fitting h_dawn h_likes h_walked h_came h_inn_creak h_inn_doorA h_inn_doorB h_inn_how h_inn_lies h_inn_isCold h_inn_falls h_inn_isFull h_inn_isTold h_inn_act h_inn_what h_inn_then h_inn_met h_inn_bed h_inn_dream h_inn_listens h_inn_name h_inn_nameSort h_inn_nameNumber v_thrown v_trouble v_where v_read v_taped v_size v_at v_sort v_place v_sign v_number v_fault v_wrongAt v_word v_marks v_notes v_inn_minutes v_inn_rooms v_inn_doors v_inn_things v_inn_dreams v_inn_sleepers v_inn_listeners v_inn_names x65_dawn x116_likes v_fitting x65_other v_inn_how v_inn_lies v_inn_isFull v_inn_bed v_inn_isTold v_inn_act v_inn_then v_inn_what v_inn_doorA v_inn_doorB x65_from v_inn_falls v_inn_creak v_inn_listens v_far v_inn_isCold v_inn_met) 116 [] := by
                          intro x116_likes hf H locs ls hl hP hD hS
                          rw [ej116] at hf
                          replace hf := un1_s hf
                          refine lv_iinc (pc := 116) (v := x83_4 + 1) (lv' := [(4, .int (x83_4 + 1)), (0, .ref h), (1, .int p0), (2, .int x24_2), (3, .int x75_3)]) hx hb dX12_compares_116 hl (k := 4) rfl rfl (by decide) rfl (fun ls hl => ?_)
                          refine lv_goto (pc := 119) (tgt := 83) hx hb dX12_compares_119 (by decide) ?_
                          exact ih83 (x83_4 + 1) x116_likes hf _ _ _ (lv_sub hl [1, 2, 3, 4, 0] rfl) hP hD hS
                        clear ej116
                        refine lv_if_ne (pc := 96) (tgt := 116) hx hb dX12_compares_96 (by decide) (fun c_96 => ?_) (fun c_96 => ?_)
                        · replace hf := it_f c_96 hf
                          exact hj116 x83_likes hf _ _ _ (lv_sub hl [0, 1, 2, 3, 4] rfl) hP hD hS
                        · replace hf := it_t c_96 hf
                          refine lv_aload_n (pc := 99) hx hb dX12_compares_99 rfl (lv_at hl 0 rfl) ?_
                          refine r_get (pc := 100) C hP 0 rfl fl_X12_61 rfl dX12_compares_100 ?_
                          refine lv_iload_n (pc := 103) hx hb dX12_compares_103 rfl (lv_at hl 3 rfl) ?_
                          refine lv_dup2_11 (pc := 104) hx hb dX12_compares_104 rfl rfl ?_
                          obtain ⟨hi_105, hf⟩ := gd_s hf
                          refine r_lald (pc := 105) C hP 3 rfl hi_105 dX12_compares_105 ?_
                          refine lv_lconst (pc := 106) (v := 1) hx hb dX12_compares_106 (by decide) ?_
                          refine lv_iload (pc := 107) hx hb dX12_compares_107 (lv_at hl 4 rfl) ?_
                          refine lv_lshl (pc := 109) (v := 1 <<< (x83_4.toInt64 &&& 63)) hx hb dX12_compares_109 rfl ?_
                          refine lv_ldc2 (pc := 110) (v := (-1)) hx hb C.2.2.2.1 (C.2.2.2.2.1 _ kl_X12_481) dX12_compares_110 ?_
                          refine lv_lxor (pc := 113) hx hb dX12_compares_113 ?_
                          refine lv_land (pc := 114) hx hb dX12_compares_114 ?_
                          obtain ⟨hi_115, hf⟩ := gd_s hf
                          refine r_last (pc := 115) (ws' := (wX12_compares E h h_inn h_tape h_far h_from h_real h_other h_kept h_set h_book h_noteSort h_whose h_what h_noteIs h_fitting h_dawn h_likes h_walked h_came h_inn_creak h_inn_doorA h_inn_doorB h_inn_how h_inn_lies h_inn_isCold h_inn_falls h_inn_isFull h_inn_isTold h_inn_act h_inn_what h_inn_then h_inn_met h_inn_bed h_inn_dream h_inn_listens h_inn_name h_inn_nameSort h_inn_nameNumber v_thrown v_trouble v_where v_read v_taped v_size v_at v_sort v_place v_sign v_number v_fault v_wrongAt v_word v_marks v_notes v_inn_minutes v_inn_rooms v_inn_doors v_inn_things v_inn_dreams v_inn_sleepers v_inn_listeners v_inn_names x65_dawn (vp_updL x83_likes x75_3.toNatClampNeg ((x83_likes x75_3.toNatClampNeg) &&& ((1 <<< (x83_4.toInt64 &&& 63)) ^^^ (-1)))) v_fitting x65_other v_inn_how v_inn_lies v_inn_isFull v_inn_bed v_inn_isTold v_inn_act v_inn_then v_inn_what v_inn_doorA v_inn_doorB x65_from v_inn_falls v_inn_creak v_inn_listens v_far v_inn_isCold v_inn_met)) C hP hD hS 3 rfl hi_115 rfl dX12_compares_115 ?_
                          clear hP hD hS; intro H locs hP hD hS
                          exact hj116 (vp_updL x83_likes x75_3.toNatClampNeg ((x83_likes x75_3.toNatClampNeg) &&& ((1 <<< (x83_4.toInt64 &&& 63)) ^^^ (-1)))) hf _ _ _ (lv_sub hl [0, 1, 2, 3, 4] rfl) hP hD hS
                  exact key83 _ 0 x75_likes hf _ _ _ (lv_sub hl [1, 2, 3, 4, 0] rfl) hP hD hS
            exact key75 _ 0 x24_likes hf _ _ _ (lv_sub hl [1, 2, 3, 0] rfl) hP hD hS
          clear eK65
          have key42 : ∀ (n : Nat) (x42_3 : Int32) (x42_dawn : Nat → Int32) (x42_other : Nat → Int32) (x42_from : Nat → Int32) , lp (BX12_compares_42 p0 N v_fitting x24_2 v_inn_minutes v_inn_rooms v_inn_doors v_inn_things v_inn_dreams v_inn_sleepers v_inn_listeners v_inn_how v_inn_lies v_inn_isFull v_inn_bed v_inn_isTold v_inn_act v_inn_then v_inn_what v_inn_doorA v_inn_doorB v_inn_falls v_inn_creak v_inn_listens v_far v_inn_isCold v_inn_met K65) n (x42_3, x42_dawn, x42_other, x42_from) = some z → AT p l e (rmOf 8 185) s m args below meth c E A Q 0 0 5 [(0, .ref h), (1, .int p0), (2, .int x24_2), (3, .int x42_3)] [(h, .inr (11, [.int v_thrown, .int v_trouble, .int v_where, .ref h_inn, va_rf v_read, .ref h_tape, .int v_taped, .int v_size, .int v_at, .int v_sort, .int v_place, .int v_sign, .int v_number, .int v_fault, .int v_wrongAt, .long v_word, .ref h_far, .ref h_from, .ref h_real, .ref h_other, .ref h_kept, .ref h_set, .ref h_other, .int v_marks, .int v_notes, .ref h_book, .ref h_noteSort, .ref h_whose, .ref h_what, .ref h_noteIs, .ref h_fitting, .ref h_dawn, .ref h_likes, .ref h_walked, .ref h_came])), (h_inn, .inr (10, [.int v_inn_minutes, .int v_inn_rooms, .int v_inn_doors, .int v_inn_things, .int v_inn_dreams, .int v_inn_sleepers, .int v_inn_listeners, .int v_inn_names, .ref h_inn_creak, .ref h_inn_doorA, .ref h_inn_doorB, .ref h_inn_how, .ref h_inn_lies, .ref h_inn_isCold, .ref h_inn_falls, .ref h_inn_isFull, .ref h_inn_isTold, .ref h_inn_act, .ref h_inn_what, .ref h_inn_then, .ref h_inn_met, .ref h_inn_bed, .ref h_inn_dream, .ref h_inn_listens, .ref h_inn_name, .ref h_inn_nameSort, .ref h_inn_nameNumber])), (h_dawn, aI E 3840 x42_dawn), (h_likes, aJ E 64 x24_likes), (h_fitting, aI E 64 v_fitting), (h_other, aI E 51 x42_other), (h_inn_how, aI E 10 v_inn_how), (h_inn_lies, aI E 4 v_inn_lies), (h_inn_isFull, aZ E 4 v_inn_isFull), (h_inn_bed, aI E 3 v_inn_bed), (h_inn_isTold, aZ E 16 v_inn_isTold), (h_inn_act, aI E 16 v_inn_act), (h_inn_then, aI E 16 v_inn_then), (h_inn_what, aI E 16 v_inn_what), (h_inn_doorA, aI E 10 v_inn_doorA), (h_inn_doorB, aI E 10 v_inn_doorB), (h_from, aI E 8 x42_from), (h_inn_falls, aZ E 10 v_inn_falls), (h_inn_creak, aI E 8 v_inn_creak), (h_inn_listens, aI E 3 v_inn_listens), (h_far, aI E 64 v_far), (h_inn_isCold, aZ E 8 v_inn_isCold), (h_inn_met, aI E 16 v_inn_met)] 42 [] := by
            intro n
            induction n with
            | zero => intro x42_3 x42_dawn x42_other x42_from hf; exact (lp_0 hf).elim
            | succ n ih42 =>
              intro x42_3 x42_dawn x42_other x42_from hf H locs ls hl hP hD hS
              replace hf := lp_s hf
              generalize lp (BX12_compares_42 p0 N v_fitting x24_2 v_inn_minutes v_inn_rooms v_inn_doors v_inn_things v_inn_dreams v_inn_sleepers v_inn_listeners v_inn_how v_inn_lies v_inn_isFull v_inn_bed v_inn_isTold v_inn_act v_inn_then v_inn_what v_inn_doorA v_inn_doorB v_inn_falls v_inn_creak v_inn_listens v_far v_inn_isCold v_inn_met K65) n = rec42 at ih42 hf
              unfold BX12_compares_42 at hf
              replace hf := un4_s hf
              refine lv_iload_n (pc := 42) hx hb dX12_compares_42 rfl (lv_at hl 3 rfl) ?_
              refine lv_iload_n (pc := 43) hx hb dX12_compares_43 rfl (lv_at hl 1 rfl) ?_
              refine lv_icmp_ge (pc := 44) (tgt := 65) hx hb dX12_compares_44 (by decide) (fun c_44 => ?_) (fun c_44 => ?_)
              · replace hf := it_t c_44 hf
                exact hK65 x42_dawn x42_other x42_from hf _ _ _ (lv_sub hl [0, 1, 2] rfl) hP hD hS
              · replace hf := it_f c_44 hf
                refine lv_aload_n (pc := 47) hx hb dX12_compares_47 rfl (lv_at hl 0 rfl) ?_
                refine lv_aload_n (pc := 48) hx hb dX12_compares_48 rfl (lv_at hl 0 rfl) ?_
                refine r_get (pc := 49) C hP 0 rfl fl_X12_55 rfl dX12_compares_49 ?_
                refine lv_iload_n (pc := 52) hx hb dX12_compares_52 rfl (lv_at hl 3 rfl) ?_
                obtain ⟨hi_53, hf⟩ := gd_s hf
                refine r_iald (pc := 53) C hP 4 rfl hi_53 dX12_compares_53 ?_
                refine lv_iload_n (pc := 54) hx hb dX12_compares_54 rfl (lv_at hl 2 rfl) ?_
                refine lv_iload_n (pc := 55) hx hb dX12_compares_55 rfl (lv_at hl 3 rfl) ?_
                obtain ⟨v_other_56, v_from_56, v_dawn_56, hc_56, hf⟩ := bd3 hf
                refine r_dalVv (pc := 56) (ws' := [(h, .inr (11, [.int v_thrown, .int v_trouble, .int v_where, .ref h_inn, va_rf v_read, .ref h_tape, .int v_taped, .int v_size, .int v_at, .int v_sort, .int v_place, .int v_sign, .int v_number, .int v_fault, .int v_wrongAt, .long v_word, .ref h_far, .ref h_from, .ref h_real, .ref h_other, .ref h_kept, .ref h_set, .ref h_other, .int v_marks, .int v_notes, .ref h_book, .ref h_noteSort, .ref h_whose, .ref h_what, .ref h_noteIs, .ref h_fitting, .ref h_dawn, .ref h_likes, .ref h_walked, .ref h_came])), (h_inn, .inr (10, [.int v_inn_minutes, .int v_inn_rooms, .int v_inn_doors, .int v_inn_things, .int v_inn_dreams, .int v_inn_sleepers, .int v_inn_listeners, .int v_inn_names, .ref h_inn_creak, .ref h_inn_doorA, .ref h_inn_doorB, .ref h_inn_how, .ref h_inn_lies, .ref h_inn_isCold, .ref h_inn_falls, .ref h_inn_isFull, .ref h_inn_isTold, .ref h_inn_act, .ref h_inn_what, .ref h_inn_then, .ref h_inn_met, .ref h_inn_bed, .ref h_inn_dream, .ref h_inn_listens, .ref h_inn_name, .ref h_inn_nameSort, .ref h_inn_nameNumber])), (h_dawn, aI E 3840 v_dawn_56), (h_likes, aJ E 64 x24_likes), (h_fitting, aI E 64 v_fitting), (h_other, aI E 51 v_other_56), (h_inn_how, aI E 10 v_inn_how), (h_inn_lies, aI E 4 v_inn_lies), (h_inn_isFull, aZ E 4 v_inn_isFull), (h_inn_bed, aI E 3 v_inn_bed), (h_inn_isTold, aZ E 16 v_inn_isTold), (h_inn_act, aI E 16 v_inn_act), (h_inn_then, aI E 16 v_inn_then), (h_inn_what, aI E 16 v_inn_what), (h_inn_doorA, aI E 10 v_inn_doorA), (h_inn_doorB, aI E 10 v_inn_doorB), (h_from, aI E 8 v_from_56), (h_inn_falls, aZ E 10 v_inn_falls), (h_inn_creak, aI E 8 v_inn_creak), (h_inn_listens, aI E 3 v_inn_listens), (h_far, aI E 64 v_far), (h_inn_isCold, aZ E 8 v_inn_isCold), (h_inn_met, aI E 16 v_inn_met)]) (As := [.int (v_fitting x42_3.toNatClampNeg), .int x24_2, .int x42_3]) (rest := []) C (ctX12_dawns l E h h_inn h_tape h_far h_from h_real h_other h_kept h_set h_other h_book h_noteSort h_whose h_what h_noteIs h_fitting h_dawn h_likes h_walked h_came h_inn_creak h_inn_doorA h_inn_doorB h_inn_how h_inn_lies h_inn_isCold h_inn_falls h_inn_isFull h_inn_isTold h_inn_act h_inn_what h_inn_then h_inn_met h_inn_bed h_inn_dream h_inn_listens h_inn_name h_inn_nameSort h_inn_nameNumber v_thrown v_trouble v_where v_read v_taped v_size v_at v_sort v_place v_sign v_number v_fault v_wrongAt v_word v_marks v_notes v_inn_minutes v_inn_rooms v_inn_doors v_inn_things v_inn_dreams v_inn_sleepers v_inn_listeners v_inn_names x42_other v_inn_how v_inn_lies v_inn_isFull v_inn_bed v_inn_isTold v_inn_act v_inn_then v_inn_what v_inn_doorA v_inn_doorB x42_from v_inn_falls v_inn_creak v_inn_listens v_far v_inn_isCold v_inn_met x42_dawn N (v_fitting x42_3.toNatClampNeg) x24_2 x42_3 (v_other_56, v_from_56, v_dawn_56) hc_56) ml_X12_470 ⟨Nat.le_of_ble_eq_true rfl, Nat.le_of_ble_eq_true rfl⟩ hP hD hS 0 rfl rfl rfl [0, 1, 5, 6, 7, 8, 9, 10, 11, 12, 13, 14, 15, 16, 17, 18, 19, 20, 21, 22, 2] [23, 24, 43, 3, 4, 25, 26, 27, 28, 29, 30, 31, 32, 33, 34, 35, 36, 37, 38, 39, 40, 41, 42] 23 rfl rfl rfl rfl rfl rfl rfl hl.1 rfl (Nat.le_of_ble_eq_true rfl) ⟨Nat.zero_le _, Nat.zero_le _⟩ dX12_compares_56 ?_
                clear hP hD hS; intro H locs hP hD hS
                refine lv_iinc (pc := 59) (v := x42_3 + 1) (lv' := [(3, .int (x42_3 + 1)), (0, .ref h), (1, .int p0), (2, .int x24_2)]) hx hb dX12_compares_59 hl (k := 3) rfl rfl (by decide) rfl (fun ls hl => ?_)
                refine lv_goto (pc := 62) (tgt := 42) hx hb dX12_compares_62 (by decide) ?_
                exact ih42 (x42_3 + 1) v_dawn_56 v_other_56 v_from_56 hf _ _ _ (lv_sub hl [1, 2, 3, 0] rfl) hP hD hS
          exact key42 _ 0 x24_dawn x24_other x24_from hf _ _ _ (lv_sub hl [1, 2, 3, 0] rfl) hP hD hS
    exact key24 _ 0 v_dawn x22_likes v_other v_from hf _ _ _ (lv_sub hl [1, 2, 0] rfl) hP hD hS
  clear eK22
  have key2 : ∀ (n : Nat) (x2_2 : Int32) (x2_likes : Nat → Int64) , lp (BX12_compares_2 p0 K22) n (x2_2, x2_likes) = some z → AT p l e (rmOf 8 185) s m args below meth c E A Q 0 0 5 [(0, .ref h), (1, .int p0), (2, .int x2_2)] (wX12_compares E h h_inn h_tape h_far h_from h_real h_other h_kept h_set h_book h_noteSort h_whose h_what h_noteIs h_fitting h_dawn h_likes h_walked h_came h_inn_creak h_inn_doorA h_inn_doorB h_inn_how h_inn_lies h_inn_isCold h_inn_falls h_inn_isFull h_inn_isTold h_inn_act h_inn_what h_inn_then h_inn_met h_inn_bed h_inn_dream h_inn_listens h_inn_name h_inn_nameSort h_inn_nameNumber v_thrown v_trouble v_where v_read v_taped v_size v_at v_sort v_place v_sign v_number v_fault v_wrongAt v_word v_marks v_notes v_inn_minutes v_inn_rooms v_inn_doors v_inn_things v_inn_dreams v_inn_sleepers v_inn_listeners v_inn_names v_dawn x2_likes v_fitting v_other v_inn_how v_inn_lies v_inn_isFull v_inn_bed v_inn_isTold v_inn_act v_inn_then v_inn_what v_inn_doorA v_inn_doorB v_from v_inn_falls v_inn_creak v_inn_listens v_far v_inn_isCold v_inn_met) 2 [] := by
    intro n
    induction n with
    | zero => intro x2_2 x2_likes hf; exact (lp_0 hf).elim
    | succ n ih2 =>
      intro x2_2 x2_likes hf H locs ls hl hP hD hS
      replace hf := lp_s hf
      generalize lp (BX12_compares_2 p0 K22) n = rec2 at ih2 hf
      unfold BX12_compares_2 at hf
      replace hf := un2_s hf
      refine lv_iload_n (pc := 2) hx hb dX12_compares_2 rfl (lv_at hl 2 rfl) ?_
      refine lv_iload_n (pc := 3) hx hb dX12_compares_3 rfl (lv_at hl 1 rfl) ?_
      refine lv_icmp_ge (pc := 4) (tgt := 22) hx hb dX12_compares_4 (by decide) (fun c_4 => ?_) (fun c_4 => ?_)
      · replace hf := it_t c_4 hf
        exact hK22 x2_likes hf _ _ _ (lv_sub hl [0, 1] rfl) hP hD hS
      · replace hf := it_f c_4 hf
        refine lv_aload_n (pc := 7) hx hb dX12_compares_7 rfl (lv_at hl 0 rfl) ?_
        refine r_get (pc := 8) C hP 0 rfl fl_X12_61 rfl dX12_compares_8 ?_
        refine lv_iload_n (pc := 11) hx hb dX12_compares_11 rfl (lv_at hl 2 rfl) ?_
        refine lv_ldc2 (pc := 12) (v := (-1)) hx hb C.2.2.2.1 (C.2.2.2.2.1 _ kl_X12_481) dX12_compares_12 ?_
        obtain ⟨hi_15, hf⟩ := gd_s hf
        refine r_last (pc := 15) (ws' := (wX12_compares E h h_inn h_tape h_far h_from h_real h_other h_kept h_set h_book h_noteSort h_whose h_what h_noteIs h_fitting h_dawn h_likes h_walked h_came h_inn_creak h_inn_doorA h_inn_doorB h_inn_how h_inn_lies h_inn_isCold h_inn_falls h_inn_isFull h_inn_isTold h_inn_act h_inn_what h_inn_then h_inn_met h_inn_bed h_inn_dream h_inn_listens h_inn_name h_inn_nameSort h_inn_nameNumber v_thrown v_trouble v_where v_read v_taped v_size v_at v_sort v_place v_sign v_number v_fault v_wrongAt v_word v_marks v_notes v_inn_minutes v_inn_rooms v_inn_doors v_inn_things v_inn_dreams v_inn_sleepers v_inn_listeners v_inn_names v_dawn (vp_updL x2_likes x2_2.toNatClampNeg (-1)) v_fitting v_other v_inn_how v_inn_lies v_inn_isFull v_inn_bed v_inn_isTold v_inn_act v_inn_then v_inn_what v_inn_doorA v_inn_doorB v_from v_inn_falls v_inn_creak v_inn_listens v_far v_inn_isCold v_inn_met)) C hP hD hS 3 rfl hi_15 rfl dX12_compares_15 ?_
        clear hP hD hS; intro H locs hP hD hS
        refine lv_iinc (pc := 16) (v := x2_2 + 1) (lv' := [(2, .int (x2_2 + 1)), (0, .ref h), (1, .int p0)]) hx hb dX12_compares_16 hl (k := 2) rfl rfl (by decide) rfl (fun ls hl => ?_)
        refine lv_goto (pc := 19) (tgt := 2) hx hb dX12_compares_19 (by decide) ?_
        exact ih2 (x2_2 + 1) (vp_updL x2_likes x2_2.toNatClampNeg (-1)) hf _ _ _ (lv_sub hl [1, 2, 0] rfl) hP hD hS
  exact key2 _ 0 v_likes hf _ _ _ (lv_sub hl [1, 2, 0] rfl) hP hD hS
def wX12_alike (E : EN) (h h_inn h_tape h_far h_from h_real h_other h_kept h_set h_book h_noteSort h_whose h_what h_noteIs h_fitting h_dawn h_likes h_walked h_came h_inn_creak h_inn_doorA h_inn_doorB h_inn_how h_inn_lies h_inn_isCold h_inn_falls h_inn_isFull h_inn_isTold h_inn_act h_inn_what h_inn_then h_inn_met h_inn_bed h_inn_dream h_inn_listens h_inn_name h_inn_nameSort h_inn_nameNumber : Nat) (v_thrown : Int32) (v_trouble : Int32) (v_where : Int32) (v_read : Option Nat) (v_taped : Int32) (v_size : Int32) (v_at : Int32) (v_sort : Int32) (v_place : Int32) (v_sign : Int32) (v_number : Int32) (v_fault : Int32) (v_wrongAt : Int32) (v_word : Int64) (v_marks : Int32) (v_notes : Int32) (v_inn_minutes : Int32) (v_inn_rooms : Int32) (v_inn_doors : Int32) (v_inn_things : Int32) (v_inn_dreams : Int32) (v_inn_sleepers : Int32) (v_inn_listeners : Int32) (v_inn_names : Int32) (v_other : Nat → Int32) (v_inn_how : Nat → Int32) (v_inn_lies : Nat → Int32) (v_inn_isFull : Nat → Int32) (v_inn_bed : Nat → Int32) (v_inn_isTold : Nat → Int32) (v_inn_act : Nat → Int32) (v_inn_then : Nat → Int32) (v_inn_what : Nat → Int32) (v_inn_doorA : Nat → Int32) (v_inn_doorB : Nat → Int32) (v_from : Nat → Int32) (v_inn_falls : Nat → Int32) (v_inn_creak : Nat → Int32) (v_inn_listens : Nat → Int32) (v_far : Nat → Int32) (v_inn_isCold : Nat → Int32) (v_inn_met : Nat → Int32) (v_fitting : Nat → Int32) (v_book : Nat → Int32) (v_noteSort : Nat → Int32) (v_whose : Nat → Int32) (v_what : Nat → Int32) (v_noteIs : Nat → Int32) (v_dawn : Nat → Int32) (v_likes : Nat → Int64) : va_W := [(h, .inr (11, [.int v_thrown, .int v_trouble, .int v_where, .ref h_inn, va_rf v_read, .ref h_tape, .int v_taped, .int v_size, .int v_at, .int v_sort, .int v_place, .int v_sign, .int v_number, .int v_fault, .int v_wrongAt, .long v_word, .ref h_far, .ref h_from, .ref h_real, .ref h_other, .ref h_kept, .ref h_set, .ref h_real, .int v_marks, .int v_notes, .ref h_book, .ref h_noteSort, .ref h_whose, .ref h_what, .ref h_noteIs, .ref h_fitting, .ref h_dawn, .ref h_likes, .ref h_walked, .ref h_came])), (h_inn, .inr (10, [.int v_inn_minutes, .int v_inn_rooms, .int v_inn_doors, .int v_inn_things, .int v_inn_dreams, .int v_inn_sleepers, .int v_inn_listeners, .int v_inn_names, .ref h_inn_creak, .ref h_inn_doorA, .ref h_inn_doorB, .ref h_inn_how, .ref h_inn_lies, .ref h_inn_isCold, .ref h_inn_falls, .ref h_inn_isFull, .ref h_inn_isTold, .ref h_inn_act, .ref h_inn_what, .ref h_inn_then, .ref h_inn_met, .ref h_inn_bed, .ref h_inn_dream, .ref h_inn_listens, .ref h_inn_name, .ref h_inn_nameSort, .ref h_inn_nameNumber])), (h_other, aI E 51 v_other), (h_inn_how, aI E 10 v_inn_how), (h_inn_lies, aI E 4 v_inn_lies), (h_inn_isFull, aZ E 4 v_inn_isFull), (h_inn_bed, aI E 3 v_inn_bed), (h_inn_isTold, aZ E 16 v_inn_isTold), (h_inn_act, aI E 16 v_inn_act), (h_inn_then, aI E 16 v_inn_then), (h_inn_what, aI E 16 v_inn_what), (h_inn_doorA, aI E 10 v_inn_doorA), (h_inn_doorB, aI E 10 v_inn_doorB), (h_from, aI E 8 v_from), (h_inn_falls, aZ E 10 v_inn_falls), (h_inn_creak, aI E 8 v_inn_creak), (h_inn_listens, aI E 3 v_inn_listens), (h_far, aI E 64 v_far), (h_inn_isCold, aZ E 8 v_inn_isCold), (h_inn_met, aI E 16 v_inn_met), (h_fitting, aI E 64 v_fitting), (h_book, aI E 20 v_book), (h_noteSort, aI E 20 v_noteSort), (h_whose, aI E 20 v_whose), (h_what, aI E 20 v_what), (h_noteIs, aZ E 20 v_noteIs), (h_dawn, aI E 3840 v_dawn), (h_likes, aJ E 64 v_likes)]
def fX12_alike (N : Nat) (p0 : Int32) (p1 : Int32) (v_notes : Int32) (v_inn_minutes : Int32) (v_inn_rooms : Int32) (v_inn_doors : Int32) (v_inn_things : Int32) (v_inn_dreams : Int32) (v_inn_sleepers : Int32) (v_inn_listeners : Int32) (v_other : Nat → Int32) (v_inn_how : Nat → Int32) (v_inn_lies : Nat → Int32) (v_inn_isFull : Nat → Int32) (v_inn_bed : Nat → Int32) (v_inn_isTold : Nat → Int32) (v_inn_act : Nat → Int32) (v_inn_then : Nat → Int32) (v_inn_what : Nat → Int32) (v_inn_doorA : Nat → Int32) (v_inn_doorB : Nat → Int32) (v_from : Nat → Int32) (v_inn_falls : Nat → Int32) (v_inn_creak : Nat → Int32) (v_inn_listens : Nat → Int32) (v_far : Nat → Int32) (v_inn_isCold : Nat → Int32) (v_inn_met : Nat → Int32) (v_fitting : Nat → Int32) (v_book : Nat → Int32) (v_noteSort : Nat → Int32) (v_whose : Nat → Int32) (v_what : Nat → Int32) (v_noteIs : Nat → Int32) (v_dawn : Nat → Int32) (v_likes : Nat → Int64) : Option (Int32 × Int32 × Int32 × Int32 × (Nat → Int32) × (Nat → Int32) × (Nat → Int32) × (Nat → Int32) × (Nat → Int64)) := if p0 < 0 then ((fX12_refused N 1).bind (un3 fun (r_27 : Int32) (v_trouble_27 : Int32) (v_where_27 : Int32) => some (r_27, 0, v_trouble_27, v_where_27, v_other, v_from, v_fitting, v_dawn, v_likes))) else (if p1 < 0 then ((fX12_refused N 1).bind (un3 fun (r_27 : Int32) (v_trouble_27 : Int32) (v_where_27 : Int32) => some (r_27, 0, v_trouble_27, v_where_27, v_other, v_from, v_fitting, v_dawn, v_likes))) else (if p0 = p1 then ((fX12_refused N 1).bind (un3 fun (r_27 : Int32) (v_trouble_27 : Int32) (v_where_27 : Int32) => some (r_27, 0, v_trouble_27, v_where_27, v_other, v_from, v_fitting, v_dawn, v_likes))) else ((fX12_fitsBy N 3 v_notes v_inn_minutes v_inn_rooms v_inn_doors v_inn_things v_inn_dreams v_inn_sleepers v_inn_listeners v_other v_inn_how v_inn_lies v_inn_isFull v_inn_bed v_inn_isTold v_inn_act v_inn_then v_inn_what v_inn_doorA v_inn_doorB v_from v_inn_falls v_inn_creak v_inn_listens v_far v_inn_isCold v_inn_met v_fitting v_book v_noteSort v_whose v_what v_noteIs).bind (un4 fun (r_33 : Int32) (v_other_33 : Nat → Int32) (v_from_33 : Nat → Int32) (v_fitting_33 : Nat → Int32) => if r_33 ≤ p0 then ((fX12_refused N 1).bind (un3 fun (r_49 : Int32) (v_trouble_49 : Int32) (v_where_49 : Int32) => some (r_49, 0, v_trouble_49, v_where_49, v_other_33, v_from_33, v_fitting_33, v_dawn, v_likes))) else (if p1 < r_33 then ((fX12_compares N r_33 v_inn_minutes v_inn_rooms v_inn_doors v_inn_things v_inn_dreams v_inn_sleepers v_inn_listeners v_dawn v_likes v_fitting_33 v_other_33 v_inn_how v_inn_lies v_inn_isFull v_inn_bed v_inn_isTold v_inn_act v_inn_then v_inn_what v_inn_doorA v_inn_doorB v_from_33 v_inn_falls v_inn_creak v_inn_listens v_far v_inn_isCold v_inn_met).bind (un4 fun (v_dawn_55 : Nat → Int32) (v_likes_55 : Nat → Int64) (v_other_55 : Nat → Int32) (v_from_55 : Nat → Int32) => gd p0 64 (if (lg_cmp (((v_likes_55 p0.toNatClampNeg) >>> (p1.toInt64 &&& 63)) &&& 1) 1) = 0 then ((fX12_good N 1).bind (un3 fun (r_79 : Int32) (v_trouble_79 : Int32) (v_where_79 : Int32) => some (r_79, 0, v_trouble_79, v_where_79, v_other_55, v_from_55, v_fitting_33, v_dawn_55, v_likes_55))) else ((fX12_good N 0).bind (un3 fun (r_79 : Int32) (v_trouble_79 : Int32) (v_where_79 : Int32) => some (r_79, 0, v_trouble_79, v_where_79, v_other_55, v_from_55, v_fitting_33, v_dawn_55, v_likes_55)))))) else ((fX12_refused N 1).bind (un3 fun (r_49 : Int32) (v_trouble_49 : Int32) (v_where_49 : Int32) => some (r_49, 0, v_trouble_49, v_where_49, v_other_33, v_from_33, v_fitting_33, v_dawn, v_likes))))))))
set_option maxHeartbeats 4000000 in
set_option maxRecDepth 100000 in
theorem ctX12_alike (l : Launch) (E : EN) (h h_inn h_tape h_far h_from h_real h_other h_kept h_set h_book h_noteSort h_whose h_what h_noteIs h_fitting h_dawn h_likes h_walked h_came h_inn_creak h_inn_doorA h_inn_doorB h_inn_how h_inn_lies h_inn_isCold h_inn_falls h_inn_isFull h_inn_isTold h_inn_act h_inn_what h_inn_then h_inn_met h_inn_bed h_inn_dream h_inn_listens h_inn_name h_inn_nameSort h_inn_nameNumber : Nat) (v_thrown : Int32) (v_trouble : Int32) (v_where : Int32) (v_read : Option Nat) (v_taped : Int32) (v_size : Int32) (v_at : Int32) (v_sort : Int32) (v_place : Int32) (v_sign : Int32) (v_number : Int32) (v_fault : Int32) (v_wrongAt : Int32) (v_word : Int64) (v_marks : Int32) (v_notes : Int32) (v_inn_minutes : Int32) (v_inn_rooms : Int32) (v_inn_doors : Int32) (v_inn_things : Int32) (v_inn_dreams : Int32) (v_inn_sleepers : Int32) (v_inn_listeners : Int32) (v_inn_names : Int32) (v_other : Nat → Int32) (v_inn_how : Nat → Int32) (v_inn_lies : Nat → Int32) (v_inn_isFull : Nat → Int32) (v_inn_bed : Nat → Int32) (v_inn_isTold : Nat → Int32) (v_inn_act : Nat → Int32) (v_inn_then : Nat → Int32) (v_inn_what : Nat → Int32) (v_inn_doorA : Nat → Int32) (v_inn_doorB : Nat → Int32) (v_from : Nat → Int32) (v_inn_falls : Nat → Int32) (v_inn_creak : Nat → Int32) (v_inn_listens : Nat → Int32) (v_far : Nat → Int32) (v_inn_isCold : Nat → Int32) (v_inn_met : Nat → Int32) (v_fitting : Nat → Int32) (v_book : Nat → Int32) (v_noteSort : Nat → Int32) (v_whose : Nat → Int32) (v_what : Nat → Int32) (v_noteIs : Nat → Int32) (v_dawn : Nat → Int32) (v_likes : Nat → Int64) (N : Nat) (p0 : Int32) (p1 : Int32) (z : Int32 × Int32 × Int32 × Int32 × (Nat → Int32) × (Nat → Int32) × (Nat → Int32) × (Nat → Int32) × (Nat → Int64)) (hf : fX12_alike N p0 p1 v_notes v_inn_minutes v_inn_rooms v_inn_doors v_inn_things v_inn_dreams v_inn_sleepers v_inn_listeners v_other v_inn_how v_inn_lies v_inn_isFull v_inn_bed v_inn_isTold v_inn_act v_inn_then v_inn_what v_inn_doorA v_inn_doorB v_from v_inn_falls v_inn_creak v_inn_listens v_far v_inn_isCold v_inn_met v_fitting v_book v_noteSort v_whose v_what v_noteIs v_dawn v_likes = some z) : CTi l E yX12_alike cX12_alike 4 .int 9 209 [.ref h, .int p0, .int p1] (wX12_alike E h h_inn h_tape h_far h_from h_real h_other h_kept h_set h_book h_noteSort h_whose h_what h_noteIs h_fitting h_dawn h_likes h_walked h_came h_inn_creak h_inn_doorA h_inn_doorB h_inn_how h_inn_lies h_inn_isCold h_inn_falls h_inn_isFull h_inn_isTold h_inn_act h_inn_what h_inn_then h_inn_met h_inn_bed h_inn_dream h_inn_listens h_inn_name h_inn_nameSort h_inn_nameNumber v_thrown v_trouble v_where v_read v_taped v_size v_at v_sort v_place v_sign v_number v_fault v_wrongAt v_word v_marks v_notes v_inn_minutes v_inn_rooms v_inn_doors v_inn_things v_inn_dreams v_inn_sleepers v_inn_listeners v_inn_names v_other v_inn_how v_inn_lies v_inn_isFull v_inn_bed v_inn_isTold v_inn_act v_inn_then v_inn_what v_inn_doorA v_inn_doorB v_from v_inn_falls v_inn_creak v_inn_listens v_far v_inn_isCold v_inn_met v_fitting v_book v_noteSort v_whose v_what v_noteIs v_dawn v_likes) (z.1) (wX12_alike E h h_inn h_tape h_far h_from h_real h_other h_kept h_set h_book h_noteSort h_whose h_what h_noteIs h_fitting h_dawn h_likes h_walked h_came h_inn_creak h_inn_doorA h_inn_doorB h_inn_how h_inn_lies h_inn_isCold h_inn_falls h_inn_isFull h_inn_isTold h_inn_act h_inn_what h_inn_then h_inn_met h_inn_bed h_inn_dream h_inn_listens h_inn_name h_inn_nameSort h_inn_nameNumber z.2.1 z.2.2.1 z.2.2.2.1 v_read v_taped v_size v_at v_sort v_place v_sign v_number v_fault v_wrongAt v_word v_marks v_notes v_inn_minutes v_inn_rooms v_inn_doors v_inn_things v_inn_dreams v_inn_sleepers v_inn_listeners v_inn_names z.2.2.2.2.1 v_inn_how v_inn_lies v_inn_isFull v_inn_bed v_inn_isTold v_inn_act v_inn_then v_inn_what v_inn_doorA v_inn_doorB z.2.2.2.2.2.1 v_inn_falls v_inn_creak v_inn_listens v_far v_inn_isCold v_inn_met z.2.2.2.2.2.2.1 v_book v_noteSort v_whose v_what v_noteIs z.2.2.2.2.2.2.2.1 z.2.2.2.2.2.2.2.2) := by
  intro sz
  refine ct_body (by decide) (Nat.le_of_ble_eq_true rfl) ?_
  intro p e s m args below meth c A ls hAe C hr hin hP hD hS hl
  have C : CX p s m args meth c cX12_alike RX12 4 E A := C
  have hl : lv_has ls 4 [(0, .ref h), (1, .int p0), (2, .int p1)] := hl
  have hx := C.1
  have hb := C.2.1
  rw [hAe]
  clear hAe
  obtain ⟨Q, hQ⟩ : ∃ Q, Q = MQ below (Qi E A (z.1) (wX12_alike E h h_inn h_tape h_far h_from h_real h_other h_kept h_set h_book h_noteSort h_whose h_what h_noteIs h_fitting h_dawn h_likes h_walked h_came h_inn_creak h_inn_doorA h_inn_doorB h_inn_how h_inn_lies h_inn_isCold h_inn_falls h_inn_isFull h_inn_isTold h_inn_act h_inn_what h_inn_then h_inn_met h_inn_bed h_inn_dream h_inn_listens h_inn_name h_inn_nameSort h_inn_nameNumber z.2.1 z.2.2.1 z.2.2.2.1 v_read v_taped v_size v_at v_sort v_place v_sign v_number v_fault v_wrongAt v_word v_marks v_notes v_inn_minutes v_inn_rooms v_inn_doors v_inn_things v_inn_dreams v_inn_sleepers v_inn_listeners v_inn_names z.2.2.2.2.1 v_inn_how v_inn_lies v_inn_isFull v_inn_bed v_inn_isTold v_inn_act v_inn_then v_inn_what v_inn_doorA v_inn_doorB z.2.2.2.2.2.1 v_inn_falls v_inn_creak v_inn_listens v_far v_inn_isCold v_inn_met z.2.2.2.2.2.2.1 v_book v_noteSort v_whose v_what v_noteIs z.2.2.2.2.2.2.2.1 z.2.2.2.2.2.2.2.2)) args s 0 0 A := ⟨_, rfl⟩
  rw [← hQ]
  unfold fX12_alike at hf
  refine lv_aload_n (pc := 0) hx hb dX12_alike_0 rfl (lv_at hl 0 rfl) ?_
  refine lv_iconst (pc := 1) (v := 0) hx hb dX12_alike_1 (by decide) ?_
  refine r_put (pc := 2) (ws' := (wX12_alike E h h_inn h_tape h_far h_from h_real h_other h_kept h_set h_book h_noteSort h_whose h_what h_noteIs h_fitting h_dawn h_likes h_walked h_came h_inn_creak h_inn_doorA h_inn_doorB h_inn_how h_inn_lies h_inn_isCold h_inn_falls h_inn_isFull h_inn_isTold h_inn_act h_inn_what h_inn_then h_inn_met h_inn_bed h_inn_dream h_inn_listens h_inn_name h_inn_nameSort h_inn_nameNumber 0 v_trouble v_where v_read v_taped v_size v_at v_sort v_place v_sign v_number v_fault v_wrongAt v_word v_marks v_notes v_inn_minutes v_inn_rooms v_inn_doors v_inn_things v_inn_dreams v_inn_sleepers v_inn_listeners v_inn_names v_other v_inn_how v_inn_lies v_inn_isFull v_inn_bed v_inn_isTold v_inn_act v_inn_then v_inn_what v_inn_doorA v_inn_doorB v_from v_inn_falls v_inn_creak v_inn_listens v_far v_inn_isCold v_inn_met v_fitting v_book v_noteSort v_whose v_what v_noteIs v_dawn v_likes)) C hP hD hS 0 rfl fl_X12_71 rfl rfl (Nat.le_of_ble_eq_true rfl) rfl dX12_alike_2 ?_
  clear hP hD hS; intro H locs hP hD hS
  refine lv_aload_n (pc := 5) hx hb dX12_alike_5 rfl (lv_at hl 0 rfl) ?_
  refine r_get (pc := 6) C hP 0 rfl fl_X12_358 rfl dX12_alike_6 ?_
  refine lv_ifnull (pc := 9) hx hb dX12_alike_9 ?_
  refine lv_iload_n (pc := 12) hx hb dX12_alike_12 rfl (lv_at hl 1 rfl) ?_
  refine lv_if_lt (pc := 13) (tgt := 25) hx hb dX12_alike_13 (by decide) (fun c_13 => ?_) (fun c_13 => ?_)
  · replace hf := it_t c_13 hf
    refine lv_aload_n (pc := 25) hx hb dX12_alike_25 rfl (lv_at hl 0 rfl) ?_
    refine lv_iconst (pc := 26) (v := 1) hx hb dX12_alike_26 (by decide) ?_
    obtain ⟨r_27, v_trouble_27, v_where_27, hc_27, hf⟩ := bd3 hf
    refine r_dalVi (pc := 27) (ws' := (wX12_alike E h h_inn h_tape h_far h_from h_real h_other h_kept h_set h_book h_noteSort h_whose h_what h_noteIs h_fitting h_dawn h_likes h_walked h_came h_inn_creak h_inn_doorA h_inn_doorB h_inn_how h_inn_lies h_inn_isCold h_inn_falls h_inn_isFull h_inn_isTold h_inn_act h_inn_what h_inn_then h_inn_met h_inn_bed h_inn_dream h_inn_listens h_inn_name h_inn_nameSort h_inn_nameNumber 0 v_trouble_27 v_where_27 v_read v_taped v_size v_at v_sort v_place v_sign v_number v_fault v_wrongAt v_word v_marks v_notes v_inn_minutes v_inn_rooms v_inn_doors v_inn_things v_inn_dreams v_inn_sleepers v_inn_listeners v_inn_names v_other v_inn_how v_inn_lies v_inn_isFull v_inn_bed v_inn_isTold v_inn_act v_inn_then v_inn_what v_inn_doorA v_inn_doorB v_from v_inn_falls v_inn_creak v_inn_listens v_far v_inn_isCold v_inn_met v_fitting v_book v_noteSort v_whose v_what v_noteIs v_dawn v_likes)) (As := [.int 1]) (rest := []) C (ctX12_refused l E h h_tape h_far h_from h_real h_other h_kept h_set h_real h_book h_noteSort h_whose h_what h_noteIs h_fitting h_dawn h_likes h_walked h_came 0 v_trouble v_where (some h_inn) v_read v_taped v_size v_at v_sort v_place v_sign v_number v_fault v_wrongAt v_word v_marks v_notes N 1 (r_27, v_trouble_27, v_where_27) hc_27) ml_X12_77 ⟨Nat.le_of_ble_eq_true rfl, Nat.le_of_ble_eq_true rfl⟩ hP hD hS 0 rfl rfl rfl [0] [28, 1, 2, 3, 4, 5, 6, 7, 8, 9, 10, 11, 12, 13, 14, 15, 16, 17, 18, 19, 20, 21, 22, 23, 24, 25, 26, 27] 28 rfl rfl rfl rfl rfl rfl rfl hl.1 rfl (Nat.le_of_ble_eq_true rfl) ⟨Nat.zero_le _, Nat.zero_le _⟩ dX12_alike_27 ?_
    clear hP hD hS; intro H locs hP hD hS
    cases hf
    rw [hQ]
    exact r_iret C hr hP hD hS rfl dX12_alike_30
  · replace hf := it_f c_13 hf
    refine lv_iload_n (pc := 16) hx hb dX12_alike_16 rfl (lv_at hl 2 rfl) ?_
    refine lv_if_lt (pc := 17) (tgt := 25) hx hb dX12_alike_17 (by decide) (fun c_17 => ?_) (fun c_17 => ?_)
    · replace hf := it_t c_17 hf
      refine lv_aload_n (pc := 25) hx hb dX12_alike_25 rfl (lv_at hl 0 rfl) ?_
      refine lv_iconst (pc := 26) (v := 1) hx hb dX12_alike_26 (by decide) ?_
      obtain ⟨r_27, v_trouble_27, v_where_27, hc_27, hf⟩ := bd3 hf
      refine r_dalVi (pc := 27) (ws' := (wX12_alike E h h_inn h_tape h_far h_from h_real h_other h_kept h_set h_book h_noteSort h_whose h_what h_noteIs h_fitting h_dawn h_likes h_walked h_came h_inn_creak h_inn_doorA h_inn_doorB h_inn_how h_inn_lies h_inn_isCold h_inn_falls h_inn_isFull h_inn_isTold h_inn_act h_inn_what h_inn_then h_inn_met h_inn_bed h_inn_dream h_inn_listens h_inn_name h_inn_nameSort h_inn_nameNumber 0 v_trouble_27 v_where_27 v_read v_taped v_size v_at v_sort v_place v_sign v_number v_fault v_wrongAt v_word v_marks v_notes v_inn_minutes v_inn_rooms v_inn_doors v_inn_things v_inn_dreams v_inn_sleepers v_inn_listeners v_inn_names v_other v_inn_how v_inn_lies v_inn_isFull v_inn_bed v_inn_isTold v_inn_act v_inn_then v_inn_what v_inn_doorA v_inn_doorB v_from v_inn_falls v_inn_creak v_inn_listens v_far v_inn_isCold v_inn_met v_fitting v_book v_noteSort v_whose v_what v_noteIs v_dawn v_likes)) (As := [.int 1]) (rest := []) C (ctX12_refused l E h h_tape h_far h_from h_real h_other h_kept h_set h_real h_book h_noteSort h_whose h_what h_noteIs h_fitting h_dawn h_likes h_walked h_came 0 v_trouble v_where (some h_inn) v_read v_taped v_size v_at v_sort v_place v_sign v_number v_fault v_wrongAt v_word v_marks v_notes N 1 (r_27, v_trouble_27, v_where_27) hc_27) ml_X12_77 ⟨Nat.le_of_ble_eq_true rfl, Nat.le_of_ble_eq_true rfl⟩ hP hD hS 0 rfl rfl rfl [0] [28, 1, 2, 3, 4, 5, 6, 7, 8, 9, 10, 11, 12, 13, 14, 15, 16, 17, 18, 19, 20, 21, 22, 23, 24, 25, 26, 27] 28 rfl rfl rfl rfl rfl rfl rfl hl.1 rfl (Nat.le_of_ble_eq_true rfl) ⟨Nat.zero_le _, Nat.zero_le _⟩ dX12_alike_27 ?_
      clear hP hD hS; intro H locs hP hD hS
      cases hf
      rw [hQ]
      exact r_iret C hr hP hD hS rfl dX12_alike_30
    · replace hf := it_f c_17 hf
      refine lv_iload_n (pc := 20) hx hb dX12_alike_20 rfl (lv_at hl 1 rfl) ?_
      refine lv_iload_n (pc := 21) hx hb dX12_alike_21 rfl (lv_at hl 2 rfl) ?_
      refine lv_icmp_ne (pc := 22) (tgt := 31) hx hb dX12_alike_22 (by decide) (fun c_22 => ?_) (fun c_22 => ?_)
      · replace hf := it_f c_22 hf
        refine lv_aload_n (pc := 31) hx hb dX12_alike_31 rfl (lv_at hl 0 rfl) ?_
        refine lv_iconst (pc := 32) (v := 3) hx hb dX12_alike_32 (by decide) ?_
        obtain ⟨r_33, v_other_33, v_from_33, v_fitting_33, hc_33, hf⟩ := bd4 hf
        refine r_dalVi (pc := 33) (ws' := (wX12_alike E h h_inn h_tape h_far h_from h_real h_other h_kept h_set h_book h_noteSort h_whose h_what h_noteIs h_fitting h_dawn h_likes h_walked h_came h_inn_creak h_inn_doorA h_inn_doorB h_inn_how h_inn_lies h_inn_isCold h_inn_falls h_inn_isFull h_inn_isTold h_inn_act h_inn_what h_inn_then h_inn_met h_inn_bed h_inn_dream h_inn_listens h_inn_name h_inn_nameSort h_inn_nameNumber 0 v_trouble v_where v_read v_taped v_size v_at v_sort v_place v_sign v_number v_fault v_wrongAt v_word v_marks v_notes v_inn_minutes v_inn_rooms v_inn_doors v_inn_things v_inn_dreams v_inn_sleepers v_inn_listeners v_inn_names v_other_33 v_inn_how v_inn_lies v_inn_isFull v_inn_bed v_inn_isTold v_inn_act v_inn_then v_inn_what v_inn_doorA v_inn_doorB v_from_33 v_inn_falls v_inn_creak v_inn_listens v_far v_inn_isCold v_inn_met v_fitting_33 v_book v_noteSort v_whose v_what v_noteIs v_dawn v_likes)) (As := [.int 3]) (rest := []) C (ctX12_fitsBy l E h h_inn h_tape h_far h_from h_real h_other h_kept h_set h_book h_noteSort h_whose h_what h_noteIs h_fitting h_dawn h_likes h_walked h_came h_inn_creak h_inn_doorA h_inn_doorB h_inn_how h_inn_lies h_inn_isCold h_inn_falls h_inn_isFull h_inn_isTold h_inn_act h_inn_what h_inn_then h_inn_met h_inn_bed h_inn_dream h_inn_listens h_inn_name h_inn_nameSort h_inn_nameNumber 0 v_trouble v_where v_read v_taped v_size v_at v_sort v_place v_sign v_number v_fault v_wrongAt v_word v_marks v_notes v_inn_minutes v_inn_rooms v_inn_doors v_inn_things v_inn_dreams v_inn_sleepers v_inn_listeners v_inn_names v_other v_inn_how v_inn_lies v_inn_isFull v_inn_bed v_inn_isTold v_inn_act v_inn_then v_inn_what v_inn_doorA v_inn_doorB v_from v_inn_falls v_inn_creak v_inn_listens v_far v_inn_isCold v_inn_met v_fitting v_book v_noteSort v_whose v_what v_noteIs N 3 (r_33, v_other_33, v_from_33, v_fitting_33) hc_33) ml_X12_464 ⟨Nat.le_of_ble_eq_true rfl, Nat.le_of_ble_eq_true rfl⟩ hP hD hS 0 rfl rfl rfl [0, 1, 2, 3, 4, 5, 6, 7, 8, 9, 10, 11, 12, 13, 14, 15, 16, 17, 18, 19, 20, 21, 22, 23, 24, 25] [28, 29, 30, 31, 32, 33, 34, 35, 36, 37, 38, 39, 40, 41, 42, 43, 44, 45, 46, 47, 48, 49, 50, 51, 52, 53, 26, 27] 28 rfl rfl rfl rfl rfl rfl rfl hl.1 rfl (Nat.le_of_ble_eq_true rfl) ⟨Nat.zero_le _, Nat.zero_le _⟩ dX12_alike_33 ?_
        clear hP hD hS; intro H locs hP hD hS
        refine lv_istore_n (pc := 36) (lv' := [(3, .int r_33), (0, .ref h), (1, .int p0), (2, .int p1)]) hx hb dX12_alike_36 rfl hl (by decide) rfl (fun ls hl => ?_)
        refine lv_iload_n (pc := 37) hx hb dX12_alike_37 rfl (lv_at hl 2 rfl) ?_
        refine lv_iload_n (pc := 38) hx hb dX12_alike_38 rfl (lv_at hl 0 rfl) ?_
        refine lv_icmp_ge (pc := 39) (tgt := 47) hx hb dX12_alike_39 (by decide) (fun c_39 => ?_) (fun c_39 => ?_)
        · replace hf := it_t c_39 hf
          refine lv_aload_n (pc := 47) hx hb dX12_alike_47 rfl (lv_at hl 1 rfl) ?_
          refine lv_iconst (pc := 48) (v := 1) hx hb dX12_alike_48 (by decide) ?_
          obtain ⟨r_49, v_trouble_49, v_where_49, hc_49, hf⟩ := bd3 hf
          refine r_dalVi (pc := 49) (ws' := (wX12_alike E h h_inn h_tape h_far h_from h_real h_other h_kept h_set h_book h_noteSort h_whose h_what h_noteIs h_fitting h_dawn h_likes h_walked h_came h_inn_creak h_inn_doorA h_inn_doorB h_inn_how h_inn_lies h_inn_isCold h_inn_falls h_inn_isFull h_inn_isTold h_inn_act h_inn_what h_inn_then h_inn_met h_inn_bed h_inn_dream h_inn_listens h_inn_name h_inn_nameSort h_inn_nameNumber 0 v_trouble_49 v_where_49 v_read v_taped v_size v_at v_sort v_place v_sign v_number v_fault v_wrongAt v_word v_marks v_notes v_inn_minutes v_inn_rooms v_inn_doors v_inn_things v_inn_dreams v_inn_sleepers v_inn_listeners v_inn_names v_other_33 v_inn_how v_inn_lies v_inn_isFull v_inn_bed v_inn_isTold v_inn_act v_inn_then v_inn_what v_inn_doorA v_inn_doorB v_from_33 v_inn_falls v_inn_creak v_inn_listens v_far v_inn_isCold v_inn_met v_fitting_33 v_book v_noteSort v_whose v_what v_noteIs v_dawn v_likes)) (As := [.int 1]) (rest := []) C (ctX12_refused l E h h_tape h_far h_from h_real h_other h_kept h_set h_real h_book h_noteSort h_whose h_what h_noteIs h_fitting h_dawn h_likes h_walked h_came 0 v_trouble v_where (some h_inn) v_read v_taped v_size v_at v_sort v_place v_sign v_number v_fault v_wrongAt v_word v_marks v_notes N 1 (r_49, v_trouble_49, v_where_49) hc_49) ml_X12_77 ⟨Nat.le_of_ble_eq_true rfl, Nat.le_of_ble_eq_true rfl⟩ hP hD hS 0 rfl rfl rfl [0] [28, 1, 2, 3, 4, 5, 6, 7, 8, 9, 10, 11, 12, 13, 14, 15, 16, 17, 18, 19, 20, 21, 22, 23, 24, 25, 26, 27] 28 rfl rfl rfl rfl rfl rfl rfl hl.1 rfl (Nat.le_of_ble_eq_true rfl) ⟨Nat.zero_le _, Nat.zero_le _⟩ dX12_alike_49 ?_
          clear hP hD hS; intro H locs hP hD hS
          cases hf
          rw [hQ]
          exact r_iret C hr hP hD hS rfl dX12_alike_52
        · replace hf := it_f c_39 hf
          refine lv_iload_n (pc := 42) hx hb dX12_alike_42 rfl (lv_at hl 3 rfl) ?_
          refine lv_iload_n (pc := 43) hx hb dX12_alike_43 rfl (lv_at hl 0 rfl) ?_
          refine lv_icmp_lt (pc := 44) (tgt := 53) hx hb dX12_alike_44 (by decide) (fun c_44 => ?_) (fun c_44 => ?_)
          · replace hf := it_t c_44 hf
            refine lv_aload_n (pc := 53) hx hb dX12_alike_53 rfl (lv_at hl 1 rfl) ?_
            refine lv_iload_n (pc := 54) hx hb dX12_alike_54 rfl (lv_at hl 0 rfl) ?_
            obtain ⟨v_dawn_55, v_likes_55, v_other_55, v_from_55, hc_55, hf⟩ := bd4 hf
            refine r_dalVv (pc := 55) (ws' := (wX12_alike E h h_inn h_tape h_far h_from h_real h_other h_kept h_set h_book h_noteSort h_whose h_what h_noteIs h_fitting h_dawn h_likes h_walked h_came h_inn_creak h_inn_doorA h_inn_doorB h_inn_how h_inn_lies h_inn_isCold h_inn_falls h_inn_isFull h_inn_isTold h_inn_act h_inn_what h_inn_then h_inn_met h_inn_bed h_inn_dream h_inn_listens h_inn_name h_inn_nameSort h_inn_nameNumber 0 v_trouble v_where v_read v_taped v_size v_at v_sort v_place v_sign v_number v_fault v_wrongAt v_word v_marks v_notes v_inn_minutes v_inn_rooms v_inn_doors v_inn_things v_inn_dreams v_inn_sleepers v_inn_listeners v_inn_names v_other_55 v_inn_how v_inn_lies v_inn_isFull v_inn_bed v_inn_isTold v_inn_act v_inn_then v_inn_what v_inn_doorA v_inn_doorB v_from_55 v_inn_falls v_inn_creak v_inn_listens v_far v_inn_isCold v_inn_met v_fitting_33 v_book v_noteSort v_whose v_what v_noteIs v_dawn_55 v_likes_55)) (As := [.int r_33]) (rest := []) C (ctX12_compares l E h h_inn h_tape h_far h_from h_real h_other h_kept h_set h_book h_noteSort h_whose h_what h_noteIs h_fitting h_dawn h_likes h_walked h_came h_inn_creak h_inn_doorA h_inn_doorB h_inn_how h_inn_lies h_inn_isCold h_inn_falls h_inn_isFull h_inn_isTold h_inn_act h_inn_what h_inn_then h_inn_met h_inn_bed h_inn_dream h_inn_listens h_inn_name h_inn_nameSort h_inn_nameNumber 0 v_trouble v_where v_read v_taped v_size v_at v_sort v_place v_sign v_number v_fault v_wrongAt v_word v_marks v_notes v_inn_minutes v_inn_rooms v_inn_doors v_inn_things v_inn_dreams v_inn_sleepers v_inn_listeners v_inn_names v_dawn v_likes v_fitting_33 v_other_33 v_inn_how v_inn_lies v_inn_isFull v_inn_bed v_inn_isTold v_inn_act v_inn_then v_inn_what v_inn_doorA v_inn_doorB v_from_33 v_inn_falls v_inn_creak v_inn_listens v_far v_inn_isCold v_inn_met N r_33 (v_dawn_55, v_likes_55, v_other_55, v_from_55) hc_55) ml_X12_483 ⟨Nat.le_of_ble_eq_true rfl, Nat.le_of_ble_eq_true rfl⟩ hP hD hS 0 rfl rfl rfl [0, 1, 26, 27, 20, 2, 3, 4, 5, 6, 7, 8, 9, 10, 11, 12, 13, 14, 15, 16, 17, 18, 19] [28, 29, 33, 34, 35, 36, 37, 38, 39, 40, 41, 42, 43, 44, 45, 46, 47, 48, 49, 50, 32, 21, 22, 23, 24, 25, 30, 31] 28 rfl rfl rfl rfl rfl rfl rfl hl.1 rfl (Nat.le_of_ble_eq_true rfl) ⟨Nat.zero_le _, Nat.zero_le _⟩ dX12_alike_55 ?_
            clear hP hD hS; intro H locs hP hD hS
            refine lv_aload_n (pc := 58) hx hb dX12_alike_58 rfl (lv_at hl 1 rfl) ?_
            refine lv_aload_n (pc := 59) hx hb dX12_alike_59 rfl (lv_at hl 1 rfl) ?_
            refine r_get (pc := 60) C hP 0 rfl fl_X12_61 rfl dX12_alike_60 ?_
            refine lv_iload_n (pc := 63) hx hb dX12_alike_63 rfl (lv_at hl 2 rfl) ?_
            obtain ⟨hi_64, hf⟩ := gd_s hf
            refine r_lald (pc := 64) C hP 27 rfl hi_64 dX12_alike_64 ?_
            refine lv_iload_n (pc := 65) hx hb dX12_alike_65 rfl (lv_at hl 3 rfl) ?_
            refine lv_lshr (pc := 66) (v := (v_likes_55 p0.toNatClampNeg) >>> (p1.toInt64 &&& 63)) hx hb dX12_alike_66 rfl ?_
            refine lv_lconst (pc := 67) (v := 1) hx hb dX12_alike_67 (by decide) ?_
            refine lv_land (pc := 68) hx hb dX12_alike_68 ?_
            refine lv_lconst (pc := 69) (v := 1) hx hb dX12_alike_69 (by decide) ?_
            refine W.lcmp (pc := 70) hx hb dX12_alike_70 ?_
            refine lv_if_ne (pc := 71) (tgt := 78) hx hb dX12_alike_71 (by decide) (fun c_71 => ?_) (fun c_71 => ?_)
            · replace hf := it_f c_71 hf
              refine lv_iconst (pc := 78) (v := 0) hx hb dX12_alike_78 (by decide) ?_
              obtain ⟨r_79, v_trouble_79, v_where_79, hc_79, hf⟩ := bd3 hf
              refine r_dalVi (pc := 79) (ws' := (wX12_alike E h h_inn h_tape h_far h_from h_real h_other h_kept h_set h_book h_noteSort h_whose h_what h_noteIs h_fitting h_dawn h_likes h_walked h_came h_inn_creak h_inn_doorA h_inn_doorB h_inn_how h_inn_lies h_inn_isCold h_inn_falls h_inn_isFull h_inn_isTold h_inn_act h_inn_what h_inn_then h_inn_met h_inn_bed h_inn_dream h_inn_listens h_inn_name h_inn_nameSort h_inn_nameNumber 0 v_trouble_79 v_where_79 v_read v_taped v_size v_at v_sort v_place v_sign v_number v_fault v_wrongAt v_word v_marks v_notes v_inn_minutes v_inn_rooms v_inn_doors v_inn_things v_inn_dreams v_inn_sleepers v_inn_listeners v_inn_names v_other_55 v_inn_how v_inn_lies v_inn_isFull v_inn_bed v_inn_isTold v_inn_act v_inn_then v_inn_what v_inn_doorA v_inn_doorB v_from_55 v_inn_falls v_inn_creak v_inn_listens v_far v_inn_isCold v_inn_met v_fitting_33 v_book v_noteSort v_whose v_what v_noteIs v_dawn_55 v_likes_55)) (As := [.int 0]) (rest := []) C (ctX12_good l E h h_tape h_far h_from h_real h_other h_kept h_set h_real h_book h_noteSort h_whose h_what h_noteIs h_fitting h_dawn h_likes h_walked h_came 0 v_trouble v_where (some h_inn) v_read v_taped v_size v_at v_sort v_place v_sign v_number v_fault v_wrongAt v_word v_marks v_notes N 0 (r_79, v_trouble_79, v_where_79) hc_79) ml_X12_81 ⟨Nat.le_of_ble_eq_true rfl, Nat.le_of_ble_eq_true rfl⟩ hP hD hS 0 rfl rfl rfl [0] [28, 1, 2, 3, 4, 5, 6, 7, 8, 9, 10, 11, 12, 13, 14, 15, 16, 17, 18, 19, 20, 21, 22, 23, 24, 25, 26, 27] 28 rfl rfl rfl rfl rfl rfl rfl hl.1 rfl (Nat.le_of_ble_eq_true rfl) ⟨Nat.zero_le _, Nat.zero_le _⟩ dX12_alike_79 ?_
              clear hP hD hS; intro H locs hP hD hS
              cases hf
              rw [hQ]
              exact r_iret C hr hP hD hS rfl dX12_alike_82
            · replace hf := it_t c_71 hf
              refine lv_iconst (pc := 74) (v := 1) hx hb dX12_alike_74 (by decide) ?_
              refine lv_goto (pc := 75) (tgt := 79) hx hb dX12_alike_75 (by decide) ?_
              obtain ⟨r_79, v_trouble_79, v_where_79, hc_79, hf⟩ := bd3 hf
              refine r_dalVi (pc := 79) (ws' := (wX12_alike E h h_inn h_tape h_far h_from h_real h_other h_kept h_set h_book h_noteSort h_whose h_what h_noteIs h_fitting h_dawn h_likes h_walked h_came h_inn_creak h_inn_doorA h_inn_doorB h_inn_how h_inn_lies h_inn_isCold h_inn_falls h_inn_isFull h_inn_isTold h_inn_act h_inn_what h_inn_then h_inn_met h_inn_bed h_inn_dream h_inn_listens h_inn_name h_inn_nameSort h_inn_nameNumber 0 v_trouble_79 v_where_79 v_read v_taped v_size v_at v_sort v_place v_sign v_number v_fault v_wrongAt v_word v_marks v_notes v_inn_minutes v_inn_rooms v_inn_doors v_inn_things v_inn_dreams v_inn_sleepers v_inn_listeners v_inn_names v_other_55 v_inn_how v_inn_lies v_inn_isFull v_inn_bed v_inn_isTold v_inn_act v_inn_then v_inn_what v_inn_doorA v_inn_doorB v_from_55 v_inn_falls v_inn_creak v_inn_listens v_far v_inn_isCold v_inn_met v_fitting_33 v_book v_noteSort v_whose v_what v_noteIs v_dawn_55 v_likes_55)) (As := [.int 1]) (rest := []) C (ctX12_good l E h h_tape h_far h_from h_real h_other h_kept h_set h_real h_book h_noteSort h_whose h_what h_noteIs h_fitting h_dawn h_likes h_walked h_came 0 v_trouble v_where (some h_inn) v_read v_taped v_size v_at v_sort v_place v_sign v_number v_fault v_wrongAt v_word v_marks v_notes N 1 (r_79, v_trouble_79, v_where_79) hc_79) ml_X12_81 ⟨Nat.le_of_ble_eq_true rfl, Nat.le_of_ble_eq_true rfl⟩ hP hD hS 0 rfl rfl rfl [0] [28, 1, 2, 3, 4, 5, 6, 7, 8, 9, 10, 11, 12, 13, 14, 15, 16, 17, 18, 19, 20, 21, 22, 23, 24, 25, 26, 27] 28 rfl rfl rfl rfl rfl rfl rfl hl.1 rfl (Nat.le_of_ble_eq_true rfl) ⟨Nat.zero_le _, Nat.zero_le _⟩ dX12_alike_79 ?_
              clear hP hD hS; intro H locs hP hD hS
              cases hf
              rw [hQ]
              exact r_iret C hr hP hD hS rfl dX12_alike_82
          · replace hf := it_f c_44 hf
            refine lv_aload_n (pc := 47) hx hb dX12_alike_47 rfl (lv_at hl 1 rfl) ?_
            refine lv_iconst (pc := 48) (v := 1) hx hb dX12_alike_48 (by decide) ?_
            obtain ⟨r_49, v_trouble_49, v_where_49, hc_49, hf⟩ := bd3 hf
            refine r_dalVi (pc := 49) (ws' := (wX12_alike E h h_inn h_tape h_far h_from h_real h_other h_kept h_set h_book h_noteSort h_whose h_what h_noteIs h_fitting h_dawn h_likes h_walked h_came h_inn_creak h_inn_doorA h_inn_doorB h_inn_how h_inn_lies h_inn_isCold h_inn_falls h_inn_isFull h_inn_isTold h_inn_act h_inn_what h_inn_then h_inn_met h_inn_bed h_inn_dream h_inn_listens h_inn_name h_inn_nameSort h_inn_nameNumber 0 v_trouble_49 v_where_49 v_read v_taped v_size v_at v_sort v_place v_sign v_number v_fault v_wrongAt v_word v_marks v_notes v_inn_minutes v_inn_rooms v_inn_doors v_inn_things v_inn_dreams v_inn_sleepers v_inn_listeners v_inn_names v_other_33 v_inn_how v_inn_lies v_inn_isFull v_inn_bed v_inn_isTold v_inn_act v_inn_then v_inn_what v_inn_doorA v_inn_doorB v_from_33 v_inn_falls v_inn_creak v_inn_listens v_far v_inn_isCold v_inn_met v_fitting_33 v_book v_noteSort v_whose v_what v_noteIs v_dawn v_likes)) (As := [.int 1]) (rest := []) C (ctX12_refused l E h h_tape h_far h_from h_real h_other h_kept h_set h_real h_book h_noteSort h_whose h_what h_noteIs h_fitting h_dawn h_likes h_walked h_came 0 v_trouble v_where (some h_inn) v_read v_taped v_size v_at v_sort v_place v_sign v_number v_fault v_wrongAt v_word v_marks v_notes N 1 (r_49, v_trouble_49, v_where_49) hc_49) ml_X12_77 ⟨Nat.le_of_ble_eq_true rfl, Nat.le_of_ble_eq_true rfl⟩ hP hD hS 0 rfl rfl rfl [0] [28, 1, 2, 3, 4, 5, 6, 7, 8, 9, 10, 11, 12, 13, 14, 15, 16, 17, 18, 19, 20, 21, 22, 23, 24, 25, 26, 27] 28 rfl rfl rfl rfl rfl rfl rfl hl.1 rfl (Nat.le_of_ble_eq_true rfl) ⟨Nat.zero_le _, Nat.zero_le _⟩ dX12_alike_49 ?_
            clear hP hD hS; intro H locs hP hD hS
            cases hf
            rw [hQ]
            exact r_iret C hr hP hD hS rfl dX12_alike_52
      · replace hf := it_t c_22 hf
        refine lv_aload_n (pc := 25) hx hb dX12_alike_25 rfl (lv_at hl 0 rfl) ?_
        refine lv_iconst (pc := 26) (v := 1) hx hb dX12_alike_26 (by decide) ?_
        obtain ⟨r_27, v_trouble_27, v_where_27, hc_27, hf⟩ := bd3 hf
        refine r_dalVi (pc := 27) (ws' := (wX12_alike E h h_inn h_tape h_far h_from h_real h_other h_kept h_set h_book h_noteSort h_whose h_what h_noteIs h_fitting h_dawn h_likes h_walked h_came h_inn_creak h_inn_doorA h_inn_doorB h_inn_how h_inn_lies h_inn_isCold h_inn_falls h_inn_isFull h_inn_isTold h_inn_act h_inn_what h_inn_then h_inn_met h_inn_bed h_inn_dream h_inn_listens h_inn_name h_inn_nameSort h_inn_nameNumber 0 v_trouble_27 v_where_27 v_read v_taped v_size v_at v_sort v_place v_sign v_number v_fault v_wrongAt v_word v_marks v_notes v_inn_minutes v_inn_rooms v_inn_doors v_inn_things v_inn_dreams v_inn_sleepers v_inn_listeners v_inn_names v_other v_inn_how v_inn_lies v_inn_isFull v_inn_bed v_inn_isTold v_inn_act v_inn_then v_inn_what v_inn_doorA v_inn_doorB v_from v_inn_falls v_inn_creak v_inn_listens v_far v_inn_isCold v_inn_met v_fitting v_book v_noteSort v_whose v_what v_noteIs v_dawn v_likes)) (As := [.int 1]) (rest := []) C (ctX12_refused l E h h_tape h_far h_from h_real h_other h_kept h_set h_real h_book h_noteSort h_whose h_what h_noteIs h_fitting h_dawn h_likes h_walked h_came 0 v_trouble v_where (some h_inn) v_read v_taped v_size v_at v_sort v_place v_sign v_number v_fault v_wrongAt v_word v_marks v_notes N 1 (r_27, v_trouble_27, v_where_27) hc_27) ml_X12_77 ⟨Nat.le_of_ble_eq_true rfl, Nat.le_of_ble_eq_true rfl⟩ hP hD hS 0 rfl rfl rfl [0] [28, 1, 2, 3, 4, 5, 6, 7, 8, 9, 10, 11, 12, 13, 14, 15, 16, 17, 18, 19, 20, 21, 22, 23, 24, 25, 26, 27] 28 rfl rfl rfl rfl rfl rfl rfl hl.1 rfl (Nat.le_of_ble_eq_true rfl) ⟨Nat.zero_le _, Nat.zero_le _⟩ dX12_alike_27 ?_
        clear hP hD hS; intro H locs hP hD hS
        cases hf
        rw [hQ]
        exact r_iret C hr hP hD hS rfl dX12_alike_30
def wX12_alike0 (E : EN) (h h_tape h_far h_from h_real h_other h_kept h_set h_book h_noteSort h_whose h_what h_noteIs h_fitting h_dawn h_likes h_walked h_came : Nat) (v_thrown : Int32) (v_trouble : Int32) (v_where : Int32) (v_read : Option Nat) (v_taped : Int32) (v_size : Int32) (v_at : Int32) (v_sort : Int32) (v_place : Int32) (v_sign : Int32) (v_number : Int32) (v_fault : Int32) (v_wrongAt : Int32) (v_word : Int64) (v_marks : Int32) (v_notes : Int32) : va_W := [(h, .inr (11, [.int v_thrown, .int v_trouble, .int v_where, .null, va_rf v_read, .ref h_tape, .int v_taped, .int v_size, .int v_at, .int v_sort, .int v_place, .int v_sign, .int v_number, .int v_fault, .int v_wrongAt, .long v_word, .ref h_far, .ref h_from, .ref h_real, .ref h_other, .ref h_kept, .ref h_set, .ref h_real, .int v_marks, .int v_notes, .ref h_book, .ref h_noteSort, .ref h_whose, .ref h_what, .ref h_noteIs, .ref h_fitting, .ref h_dawn, .ref h_likes, .ref h_walked, .ref h_came]))]
def fX12_alike0 (N : Nat) : Option (Int32 × Int32 × Int32 × Int32) := (fX12_refused N 1).bind (un3 fun (r_27 : Int32) (v_trouble_27 : Int32) (v_where_27 : Int32) => some (r_27, 0, v_trouble_27, v_where_27))
set_option maxHeartbeats 4000000 in
set_option maxRecDepth 100000 in
theorem ctX12_alike0 (l : Launch) (E : EN) (h h_tape h_far h_from h_real h_other h_kept h_set h_book h_noteSort h_whose h_what h_noteIs h_fitting h_dawn h_likes h_walked h_came : Nat) (v_thrown : Int32) (v_trouble : Int32) (v_where : Int32) (v_read : Option Nat) (v_taped : Int32) (v_size : Int32) (v_at : Int32) (v_sort : Int32) (v_place : Int32) (v_sign : Int32) (v_number : Int32) (v_fault : Int32) (v_wrongAt : Int32) (v_word : Int64) (v_marks : Int32) (v_notes : Int32) (N : Nat) (p0 : Int32) (p1 : Int32) (z : Int32 × Int32 × Int32 × Int32) (hf : fX12_alike0 N  = some z) : CTi l E yX12_alike cX12_alike 4 .int 1 21 [.ref h, .int p0, .int p1] (wX12_alike0 E h h_tape h_far h_from h_real h_other h_kept h_set h_book h_noteSort h_whose h_what h_noteIs h_fitting h_dawn h_likes h_walked h_came v_thrown v_trouble v_where v_read v_taped v_size v_at v_sort v_place v_sign v_number v_fault v_wrongAt v_word v_marks v_notes) (z.1) (wX12_alike0 E h h_tape h_far h_from h_real h_other h_kept h_set h_book h_noteSort h_whose h_what h_noteIs h_fitting h_dawn h_likes h_walked h_came z.2.1 z.2.2.1 z.2.2.2 v_read v_taped v_size v_at v_sort v_place v_sign v_number v_fault v_wrongAt v_word v_marks v_notes) := by
  intro sz
  refine ct_body (by decide) (Nat.le_of_ble_eq_true rfl) ?_
  intro p e s m args below meth c A ls hAe C hr hin hP hD hS hl
  have C : CX p s m args meth c cX12_alike RX12 4 E A := C
  have hl : lv_has ls 4 [(0, .ref h), (1, .int p0), (2, .int p1)] := hl
  have hx := C.1
  have hb := C.2.1
  rw [hAe]
  clear hAe
  obtain ⟨Q, hQ⟩ : ∃ Q, Q = MQ below (Qi E A (z.1) (wX12_alike0 E h h_tape h_far h_from h_real h_other h_kept h_set h_book h_noteSort h_whose h_what h_noteIs h_fitting h_dawn h_likes h_walked h_came z.2.1 z.2.2.1 z.2.2.2 v_read v_taped v_size v_at v_sort v_place v_sign v_number v_fault v_wrongAt v_word v_marks v_notes)) args s 0 0 A := ⟨_, rfl⟩
  rw [← hQ]
  unfold fX12_alike0 at hf
  refine lv_aload_n (pc := 0) hx hb dX12_alike_0 rfl (lv_at hl 0 rfl) ?_
  refine lv_iconst (pc := 1) (v := 0) hx hb dX12_alike_1 (by decide) ?_
  refine r_put (pc := 2) (ws' := (wX12_alike0 E h h_tape h_far h_from h_real h_other h_kept h_set h_book h_noteSort h_whose h_what h_noteIs h_fitting h_dawn h_likes h_walked h_came 0 v_trouble v_where v_read v_taped v_size v_at v_sort v_place v_sign v_number v_fault v_wrongAt v_word v_marks v_notes)) C hP hD hS 0 rfl fl_X12_71 rfl rfl (Nat.le_of_ble_eq_true rfl) rfl dX12_alike_2 ?_
  clear hP hD hS; intro H locs hP hD hS
  refine lv_aload_n (pc := 5) hx hb dX12_alike_5 rfl (lv_at hl 0 rfl) ?_
  refine r_get (pc := 6) C hP 0 rfl fl_X12_358 rfl dX12_alike_6 ?_
  refine lv_ifnullN (pc := 9) (tgt := 25) hx hb dX12_alike_9 (by decide) ?_
  refine lv_aload_n (pc := 25) hx hb dX12_alike_25 rfl (lv_at hl 0 rfl) ?_
  refine lv_iconst (pc := 26) (v := 1) hx hb dX12_alike_26 (by decide) ?_
  obtain ⟨r_27, v_trouble_27, v_where_27, hc_27, hf⟩ := bd3 hf
  refine r_dalVi (pc := 27) (ws' := (wX12_alike0 E h h_tape h_far h_from h_real h_other h_kept h_set h_book h_noteSort h_whose h_what h_noteIs h_fitting h_dawn h_likes h_walked h_came 0 v_trouble_27 v_where_27 v_read v_taped v_size v_at v_sort v_place v_sign v_number v_fault v_wrongAt v_word v_marks v_notes)) (As := [.int 1]) (rest := []) C (ctX12_refused l E h h_tape h_far h_from h_real h_other h_kept h_set h_real h_book h_noteSort h_whose h_what h_noteIs h_fitting h_dawn h_likes h_walked h_came 0 v_trouble v_where none v_read v_taped v_size v_at v_sort v_place v_sign v_number v_fault v_wrongAt v_word v_marks v_notes N 1 (r_27, v_trouble_27, v_where_27) hc_27) ml_X12_77 ⟨Nat.le_of_ble_eq_true rfl, Nat.le_of_ble_eq_true rfl⟩ hP hD hS 0 rfl rfl rfl [0] [1] 1 rfl rfl rfl rfl rfl rfl rfl hl.1 rfl (Nat.le_of_ble_eq_true rfl) ⟨Nat.zero_le _, Nat.zero_le _⟩ dX12_alike_27 ?_
  clear hP hD hS; intro H locs hP hD hS
  cases hf
  rw [hQ]
  exact r_iret C hr hP hD hS rfl dX12_alike_30
def wX12_never (E : EN) (h h_inn h_tape h_far h_from h_real h_other h_kept h_set h_book h_noteSort h_whose h_what h_noteIs h_fitting h_dawn h_likes h_walked h_came h_inn_creak h_inn_doorA h_inn_doorB h_inn_how h_inn_lies h_inn_isCold h_inn_falls h_inn_isFull h_inn_isTold h_inn_act h_inn_what h_inn_then h_inn_met h_inn_bed h_inn_dream h_inn_listens h_inn_name h_inn_nameSort h_inn_nameNumber : Nat) (v_thrown : Int32) (v_trouble : Int32) (v_where : Int32) (v_read : Option Nat) (v_taped : Int32) (v_size : Int32) (v_at : Int32) (v_sort : Int32) (v_place : Int32) (v_sign : Int32) (v_number : Int32) (v_fault : Int32) (v_wrongAt : Int32) (v_word : Int64) (v_marks : Int32) (v_notes : Int32) (v_inn_minutes : Int32) (v_inn_rooms : Int32) (v_inn_doors : Int32) (v_inn_things : Int32) (v_inn_dreams : Int32) (v_inn_sleepers : Int32) (v_inn_listeners : Int32) (v_inn_names : Int32) (v_other : Nat → Int32) (v_inn_how : Nat → Int32) (v_inn_lies : Nat → Int32) (v_inn_isFull : Nat → Int32) (v_inn_bed : Nat → Int32) (v_inn_isTold : Nat → Int32) (v_inn_act : Nat → Int32) (v_inn_then : Nat → Int32) (v_inn_what : Nat → Int32) (v_inn_doorA : Nat → Int32) (v_inn_doorB : Nat → Int32) (v_from : Nat → Int32) (v_inn_falls : Nat → Int32) (v_inn_creak : Nat → Int32) (v_inn_listens : Nat → Int32) (v_far : Nat → Int32) (v_inn_isCold : Nat → Int32) (v_inn_met : Nat → Int32) (v_fitting : Nat → Int32) (v_book : Nat → Int32) (v_noteSort : Nat → Int32) (v_whose : Nat → Int32) (v_what : Nat → Int32) (v_noteIs : Nat → Int32) (v_dawn : Nat → Int32) (v_likes : Nat → Int64) : va_W := [(h, .inr (11, [.int v_thrown, .int v_trouble, .int v_where, .ref h_inn, va_rf v_read, .ref h_tape, .int v_taped, .int v_size, .int v_at, .int v_sort, .int v_place, .int v_sign, .int v_number, .int v_fault, .int v_wrongAt, .long v_word, .ref h_far, .ref h_from, .ref h_real, .ref h_other, .ref h_kept, .ref h_set, .ref h_real, .int v_marks, .int v_notes, .ref h_book, .ref h_noteSort, .ref h_whose, .ref h_what, .ref h_noteIs, .ref h_fitting, .ref h_dawn, .ref h_likes, .ref h_walked, .ref h_came])), (h_inn, .inr (10, [.int v_inn_minutes, .int v_inn_rooms, .int v_inn_doors, .int v_inn_things, .int v_inn_dreams, .int v_inn_sleepers, .int v_inn_listeners, .int v_inn_names, .ref h_inn_creak, .ref h_inn_doorA, .ref h_inn_doorB, .ref h_inn_how, .ref h_inn_lies, .ref h_inn_isCold, .ref h_inn_falls, .ref h_inn_isFull, .ref h_inn_isTold, .ref h_inn_act, .ref h_inn_what, .ref h_inn_then, .ref h_inn_met, .ref h_inn_bed, .ref h_inn_dream, .ref h_inn_listens, .ref h_inn_name, .ref h_inn_nameSort, .ref h_inn_nameNumber])), (h_other, aI E 51 v_other), (h_inn_how, aI E 10 v_inn_how), (h_inn_lies, aI E 4 v_inn_lies), (h_inn_isFull, aZ E 4 v_inn_isFull), (h_inn_bed, aI E 3 v_inn_bed), (h_inn_isTold, aZ E 16 v_inn_isTold), (h_inn_act, aI E 16 v_inn_act), (h_inn_then, aI E 16 v_inn_then), (h_inn_what, aI E 16 v_inn_what), (h_inn_doorA, aI E 10 v_inn_doorA), (h_inn_doorB, aI E 10 v_inn_doorB), (h_from, aI E 8 v_from), (h_inn_falls, aZ E 10 v_inn_falls), (h_inn_creak, aI E 8 v_inn_creak), (h_inn_listens, aI E 3 v_inn_listens), (h_far, aI E 64 v_far), (h_inn_isCold, aZ E 8 v_inn_isCold), (h_inn_met, aI E 16 v_inn_met), (h_fitting, aI E 64 v_fitting), (h_book, aI E 20 v_book), (h_noteSort, aI E 20 v_noteSort), (h_whose, aI E 20 v_whose), (h_what, aI E 20 v_what), (h_noteIs, aZ E 20 v_noteIs), (h_dawn, aI E 3840 v_dawn), (h_likes, aJ E 64 v_likes)]
def BX12_never_41 (x33_3 : Int32) (v_likes_26 : Nat → Int64) (K77 : (Int32) → Option (Int32 × Int32 × Int32 × Int32 × (Nat → Int32) × (Nat → Int32) × (Nat → Int32) × (Nat → Int32) × (Nat → Int64))) (rec41 : (Int32 × Int32) → Option (Int32 × Int32 × Int32 × Int32 × (Nat → Int32) × (Nat → Int32) × (Nat → Int32) × (Nat → Int32) × (Nat → Int64))) : (Int32 × Int32) → Option (Int32 × Int32 × Int32 × Int32 × (Nat → Int32) × (Nat → Int32) × (Nat → Int32) × (Nat → Int32) × (Nat → Int64)) := un2 fun (x41_2 : Int32) (x41_4 : Int32) => if x33_3 ≤ x41_4 then (K77 x41_2) else (gd x33_3 64 (jn (un2 fun (x69_s0 : Int32) (x69_s1 : Int32) => rec41 (x69_s0 + x69_s1, x41_4 + 1)) (fun j69 => if (lg_cmp (((v_likes_26 x33_3.toNatClampNeg) >>> (x41_4.toInt64 &&& 63)) &&& 1) 1) = 0 then (j69 (x41_2, 1)) else (j69 (x41_2, 0)))))
def BX12_never_33 (r_20 : Int32) (N : Nat) (v_other_26 : Nat → Int32) (v_from_26 : Nat → Int32) (v_fitting_20 : Nat → Int32) (v_dawn_26 : Nat → Int32) (v_likes_26 : Nat → Int64) (rec33 : (Int32 × Int32) → Option (Int32 × Int32 × Int32 × Int32 × (Nat → Int32) × (Nat → Int32) × (Nat → Int32) × (Nat → Int32) × (Nat → Int64))) : (Int32 × Int32) → Option (Int32 × Int32 × Int32 × Int32 × (Nat → Int32) × (Nat → Int32) × (Nat → Int32) × (Nat → Int32) × (Nat → Int64)) := un2 fun (x33_2 : Int32) (x33_3 : Int32) => if r_20 ≤ x33_3 then ((fX12_good N x33_2).bind (un3 fun (r_85 : Int32) (v_trouble_85 : Int32) (v_where_85 : Int32) => some (r_85, 0, v_trouble_85, v_where_85, v_other_26, v_from_26, v_fitting_20, v_dawn_26, v_likes_26))) else (lp (BX12_never_41 x33_3 v_likes_26 (un1 fun (x77_2 : Int32) => rec33 (x77_2, x33_3 + 1))) N (x33_2, 0))
def fX12_never (N : Nat) (v_notes : Int32) (v_inn_minutes : Int32) (v_inn_rooms : Int32) (v_inn_doors : Int32) (v_inn_things : Int32) (v_inn_dreams : Int32) (v_inn_sleepers : Int32) (v_inn_listeners : Int32) (v_other : Nat → Int32) (v_inn_how : Nat → Int32) (v_inn_lies : Nat → Int32) (v_inn_isFull : Nat → Int32) (v_inn_bed : Nat → Int32) (v_inn_isTold : Nat → Int32) (v_inn_act : Nat → Int32) (v_inn_then : Nat → Int32) (v_inn_what : Nat → Int32) (v_inn_doorA : Nat → Int32) (v_inn_doorB : Nat → Int32) (v_from : Nat → Int32) (v_inn_falls : Nat → Int32) (v_inn_creak : Nat → Int32) (v_inn_listens : Nat → Int32) (v_far : Nat → Int32) (v_inn_isCold : Nat → Int32) (v_inn_met : Nat → Int32) (v_fitting : Nat → Int32) (v_book : Nat → Int32) (v_noteSort : Nat → Int32) (v_whose : Nat → Int32) (v_what : Nat → Int32) (v_noteIs : Nat → Int32) (v_dawn : Nat → Int32) (v_likes : Nat → Int64) : Option (Int32 × Int32 × Int32 × Int32 × (Nat → Int32) × (Nat → Int32) × (Nat → Int32) × (Nat → Int32) × (Nat → Int64)) := (fX12_fitsBy N 3 v_notes v_inn_minutes v_inn_rooms v_inn_doors v_inn_things v_inn_dreams v_inn_sleepers v_inn_listeners v_other v_inn_how v_inn_lies v_inn_isFull v_inn_bed v_inn_isTold v_inn_act v_inn_then v_inn_what v_inn_doorA v_inn_doorB v_from v_inn_falls v_inn_creak v_inn_listens v_far v_inn_isCold v_inn_met v_fitting v_book v_noteSort v_whose v_what v_noteIs).bind (un4 fun (r_20 : Int32) (v_other_20 : Nat → Int32) (v_from_20 : Nat → Int32) (v_fitting_20 : Nat → Int32) => (fX12_compares N r_20 v_inn_minutes v_inn_rooms v_inn_doors v_inn_things v_inn_dreams v_inn_sleepers v_inn_listeners v_dawn v_likes v_fitting_20 v_other_20 v_inn_how v_inn_lies v_inn_isFull v_inn_bed v_inn_isTold v_inn_act v_inn_then v_inn_what v_inn_doorA v_inn_doorB v_from_20 v_inn_falls v_inn_creak v_inn_listens v_far v_inn_isCold v_inn_met).bind (un4 fun (v_dawn_26 : Nat → Int32) (v_likes_26 : Nat → Int64) (v_other_26 : Nat → Int32) (v_from_26 : Nat → Int32) => lp (BX12_never_33 r_20 N v_other_26 v_from_26 v_fitting_20 v_dawn_26 v_likes_26) N (0, 0)))
set_option maxHeartbeats 4000000 in
set_option maxRecDepth 100000 in
theorem ctX12_never (l : Launch) (E : EN) (h h_inn h_tape h_far h_from h_real h_other h_kept h_set h_book h_noteSort h_whose h_what h_noteIs h_fitting h_dawn h_likes h_walked h_came h_inn_creak h_inn_doorA h_inn_doorB h_inn_how h_inn_lies h_inn_isCold h_inn_falls h_inn_isFull h_inn_isTold h_inn_act h_inn_what h_inn_then h_inn_met h_inn_bed h_inn_dream h_inn_listens h_inn_name h_inn_nameSort h_inn_nameNumber : Nat) (v_thrown : Int32) (v_trouble : Int32) (v_where : Int32) (v_read : Option Nat) (v_taped : Int32) (v_size : Int32) (v_at : Int32) (v_sort : Int32) (v_place : Int32) (v_sign : Int32) (v_number : Int32) (v_fault : Int32) (v_wrongAt : Int32) (v_word : Int64) (v_marks : Int32) (v_notes : Int32) (v_inn_minutes : Int32) (v_inn_rooms : Int32) (v_inn_doors : Int32) (v_inn_things : Int32) (v_inn_dreams : Int32) (v_inn_sleepers : Int32) (v_inn_listeners : Int32) (v_inn_names : Int32) (v_other : Nat → Int32) (v_inn_how : Nat → Int32) (v_inn_lies : Nat → Int32) (v_inn_isFull : Nat → Int32) (v_inn_bed : Nat → Int32) (v_inn_isTold : Nat → Int32) (v_inn_act : Nat → Int32) (v_inn_then : Nat → Int32) (v_inn_what : Nat → Int32) (v_inn_doorA : Nat → Int32) (v_inn_doorB : Nat → Int32) (v_from : Nat → Int32) (v_inn_falls : Nat → Int32) (v_inn_creak : Nat → Int32) (v_inn_listens : Nat → Int32) (v_far : Nat → Int32) (v_inn_isCold : Nat → Int32) (v_inn_met : Nat → Int32) (v_fitting : Nat → Int32) (v_book : Nat → Int32) (v_noteSort : Nat → Int32) (v_whose : Nat → Int32) (v_what : Nat → Int32) (v_noteIs : Nat → Int32) (v_dawn : Nat → Int32) (v_likes : Nat → Int64) (N : Nat) (z : Int32 × Int32 × Int32 × Int32 × (Nat → Int32) × (Nat → Int32) × (Nat → Int32) × (Nat → Int32) × (Nat → Int64)) (hf : fX12_never N v_notes v_inn_minutes v_inn_rooms v_inn_doors v_inn_things v_inn_dreams v_inn_sleepers v_inn_listeners v_other v_inn_how v_inn_lies v_inn_isFull v_inn_bed v_inn_isTold v_inn_act v_inn_then v_inn_what v_inn_doorA v_inn_doorB v_from v_inn_falls v_inn_creak v_inn_listens v_far v_inn_isCold v_inn_met v_fitting v_book v_noteSort v_whose v_what v_noteIs v_dawn v_likes = some z) : CTi l E yX12_never cX12_never 5 .int 9 209 [.ref h] (wX12_never E h h_inn h_tape h_far h_from h_real h_other h_kept h_set h_book h_noteSort h_whose h_what h_noteIs h_fitting h_dawn h_likes h_walked h_came h_inn_creak h_inn_doorA h_inn_doorB h_inn_how h_inn_lies h_inn_isCold h_inn_falls h_inn_isFull h_inn_isTold h_inn_act h_inn_what h_inn_then h_inn_met h_inn_bed h_inn_dream h_inn_listens h_inn_name h_inn_nameSort h_inn_nameNumber v_thrown v_trouble v_where v_read v_taped v_size v_at v_sort v_place v_sign v_number v_fault v_wrongAt v_word v_marks v_notes v_inn_minutes v_inn_rooms v_inn_doors v_inn_things v_inn_dreams v_inn_sleepers v_inn_listeners v_inn_names v_other v_inn_how v_inn_lies v_inn_isFull v_inn_bed v_inn_isTold v_inn_act v_inn_then v_inn_what v_inn_doorA v_inn_doorB v_from v_inn_falls v_inn_creak v_inn_listens v_far v_inn_isCold v_inn_met v_fitting v_book v_noteSort v_whose v_what v_noteIs v_dawn v_likes) (z.1) (wX12_never E h h_inn h_tape h_far h_from h_real h_other h_kept h_set h_book h_noteSort h_whose h_what h_noteIs h_fitting h_dawn h_likes h_walked h_came h_inn_creak h_inn_doorA h_inn_doorB h_inn_how h_inn_lies h_inn_isCold h_inn_falls h_inn_isFull h_inn_isTold h_inn_act h_inn_what h_inn_then h_inn_met h_inn_bed h_inn_dream h_inn_listens h_inn_name h_inn_nameSort h_inn_nameNumber z.2.1 z.2.2.1 z.2.2.2.1 v_read v_taped v_size v_at v_sort v_place v_sign v_number v_fault v_wrongAt v_word v_marks v_notes v_inn_minutes v_inn_rooms v_inn_doors v_inn_things v_inn_dreams v_inn_sleepers v_inn_listeners v_inn_names z.2.2.2.2.1 v_inn_how v_inn_lies v_inn_isFull v_inn_bed v_inn_isTold v_inn_act v_inn_then v_inn_what v_inn_doorA v_inn_doorB z.2.2.2.2.2.1 v_inn_falls v_inn_creak v_inn_listens v_far v_inn_isCold v_inn_met z.2.2.2.2.2.2.1 v_book v_noteSort v_whose v_what v_noteIs z.2.2.2.2.2.2.2.1 z.2.2.2.2.2.2.2.2) := by
  intro sz
  refine ct_body (by decide) (Nat.le_of_ble_eq_true rfl) ?_
  intro p e s m args below meth c A ls hAe C hr hin hP hD hS hl
  have C : CX p s m args meth c cX12_never RX12 5 E A := C
  have hl : lv_has ls 5 [(0, .ref h)] := hl
  have hx := C.1
  have hb := C.2.1
  rw [hAe]
  clear hAe
  obtain ⟨Q, hQ⟩ : ∃ Q, Q = MQ below (Qi E A (z.1) (wX12_never E h h_inn h_tape h_far h_from h_real h_other h_kept h_set h_book h_noteSort h_whose h_what h_noteIs h_fitting h_dawn h_likes h_walked h_came h_inn_creak h_inn_doorA h_inn_doorB h_inn_how h_inn_lies h_inn_isCold h_inn_falls h_inn_isFull h_inn_isTold h_inn_act h_inn_what h_inn_then h_inn_met h_inn_bed h_inn_dream h_inn_listens h_inn_name h_inn_nameSort h_inn_nameNumber z.2.1 z.2.2.1 z.2.2.2.1 v_read v_taped v_size v_at v_sort v_place v_sign v_number v_fault v_wrongAt v_word v_marks v_notes v_inn_minutes v_inn_rooms v_inn_doors v_inn_things v_inn_dreams v_inn_sleepers v_inn_listeners v_inn_names z.2.2.2.2.1 v_inn_how v_inn_lies v_inn_isFull v_inn_bed v_inn_isTold v_inn_act v_inn_then v_inn_what v_inn_doorA v_inn_doorB z.2.2.2.2.2.1 v_inn_falls v_inn_creak v_inn_listens v_far v_inn_isCold v_inn_met z.2.2.2.2.2.2.1 v_book v_noteSort v_whose v_what v_noteIs z.2.2.2.2.2.2.2.1 z.2.2.2.2.2.2.2.2)) args s 0 0 A := ⟨_, rfl⟩
  rw [← hQ]
  unfold fX12_never at hf
  refine lv_aload_n (pc := 0) hx hb dX12_never_0 rfl (lv_at hl 0 rfl) ?_
  refine lv_iconst (pc := 1) (v := 0) hx hb dX12_never_1 (by decide) ?_
  refine r_put (pc := 2) (ws' := (wX12_never E h h_inn h_tape h_far h_from h_real h_other h_kept h_set h_book h_noteSort h_whose h_what h_noteIs h_fitting h_dawn h_likes h_walked h_came h_inn_creak h_inn_doorA h_inn_doorB h_inn_how h_inn_lies h_inn_isCold h_inn_falls h_inn_isFull h_inn_isTold h_inn_act h_inn_what h_inn_then h_inn_met h_inn_bed h_inn_dream h_inn_listens h_inn_name h_inn_nameSort h_inn_nameNumber 0 v_trouble v_where v_read v_taped v_size v_at v_sort v_place v_sign v_number v_fault v_wrongAt v_word v_marks v_notes v_inn_minutes v_inn_rooms v_inn_doors v_inn_things v_inn_dreams v_inn_sleepers v_inn_listeners v_inn_names v_other v_inn_how v_inn_lies v_inn_isFull v_inn_bed v_inn_isTold v_inn_act v_inn_then v_inn_what v_inn_doorA v_inn_doorB v_from v_inn_falls v_inn_creak v_inn_listens v_far v_inn_isCold v_inn_met v_fitting v_book v_noteSort v_whose v_what v_noteIs v_dawn v_likes)) C hP hD hS 0 rfl fl_X12_71 rfl rfl (Nat.le_of_ble_eq_true rfl) rfl dX12_never_2 ?_
  clear hP hD hS; intro H locs hP hD hS
  refine lv_aload_n (pc := 5) hx hb dX12_never_5 rfl (lv_at hl 0 rfl) ?_
  refine r_get (pc := 6) C hP 0 rfl fl_X12_358 rfl dX12_never_6 ?_
  refine lv_ifnonnull (pc := 9) (tgt := 18) hx hb dX12_never_9 (by decide) ?_
  refine lv_aload_n (pc := 18) hx hb dX12_never_18 rfl (lv_at hl 0 rfl) ?_
  refine lv_iconst (pc := 19) (v := 3) hx hb dX12_never_19 (by decide) ?_
  obtain ⟨r_20, v_other_20, v_from_20, v_fitting_20, hc_20, hf⟩ := bd4 hf
  refine r_dalVi (pc := 20) (ws' := (wX12_never E h h_inn h_tape h_far h_from h_real h_other h_kept h_set h_book h_noteSort h_whose h_what h_noteIs h_fitting h_dawn h_likes h_walked h_came h_inn_creak h_inn_doorA h_inn_doorB h_inn_how h_inn_lies h_inn_isCold h_inn_falls h_inn_isFull h_inn_isTold h_inn_act h_inn_what h_inn_then h_inn_met h_inn_bed h_inn_dream h_inn_listens h_inn_name h_inn_nameSort h_inn_nameNumber 0 v_trouble v_where v_read v_taped v_size v_at v_sort v_place v_sign v_number v_fault v_wrongAt v_word v_marks v_notes v_inn_minutes v_inn_rooms v_inn_doors v_inn_things v_inn_dreams v_inn_sleepers v_inn_listeners v_inn_names v_other_20 v_inn_how v_inn_lies v_inn_isFull v_inn_bed v_inn_isTold v_inn_act v_inn_then v_inn_what v_inn_doorA v_inn_doorB v_from_20 v_inn_falls v_inn_creak v_inn_listens v_far v_inn_isCold v_inn_met v_fitting_20 v_book v_noteSort v_whose v_what v_noteIs v_dawn v_likes)) (As := [.int 3]) (rest := []) C (ctX12_fitsBy l E h h_inn h_tape h_far h_from h_real h_other h_kept h_set h_book h_noteSort h_whose h_what h_noteIs h_fitting h_dawn h_likes h_walked h_came h_inn_creak h_inn_doorA h_inn_doorB h_inn_how h_inn_lies h_inn_isCold h_inn_falls h_inn_isFull h_inn_isTold h_inn_act h_inn_what h_inn_then h_inn_met h_inn_bed h_inn_dream h_inn_listens h_inn_name h_inn_nameSort h_inn_nameNumber 0 v_trouble v_where v_read v_taped v_size v_at v_sort v_place v_sign v_number v_fault v_wrongAt v_word v_marks v_notes v_inn_minutes v_inn_rooms v_inn_doors v_inn_things v_inn_dreams v_inn_sleepers v_inn_listeners v_inn_names v_other v_inn_how v_inn_lies v_inn_isFull v_inn_bed v_inn_isTold v_inn_act v_inn_then v_inn_what v_inn_doorA v_inn_doorB v_from v_inn_falls v_inn_creak v_inn_listens v_far v_inn_isCold v_inn_met v_fitting v_book v_noteSort v_whose v_what v_noteIs N 3 (r_20, v_other_20, v_from_20, v_fitting_20) hc_20) ml_X12_464 ⟨Nat.le_of_ble_eq_true rfl, Nat.le_of_ble_eq_true rfl⟩ hP hD hS 0 rfl rfl rfl [0, 1, 2, 3, 4, 5, 6, 7, 8, 9, 10, 11, 12, 13, 14, 15, 16, 17, 18, 19, 20, 21, 22, 23, 24, 25] [28, 29, 30, 31, 32, 33, 34, 35, 36, 37, 38, 39, 40, 41, 42, 43, 44, 45, 46, 47, 48, 49, 50, 51, 52, 53, 26, 27] 28 rfl rfl rfl rfl rfl rfl rfl hl.1 rfl (Nat.le_of_ble_eq_true rfl) ⟨Nat.zero_le _, Nat.zero_le _⟩ dX12_never_20 ?_
  clear hP hD hS; intro H locs hP hD hS
  refine lv_istore_n (pc := 23) (lv' := [(1, .int r_20), (0, .ref h)]) hx hb dX12_never_23 rfl hl (by decide) rfl (fun ls hl => ?_)
  refine lv_aload_n (pc := 24) hx hb dX12_never_24 rfl (lv_at hl 1 rfl) ?_
  refine lv_iload_n (pc := 25) hx hb dX12_never_25 rfl (lv_at hl 0 rfl) ?_
  obtain ⟨v_dawn_26, v_likes_26, v_other_26, v_from_26, hc_26, hf⟩ := bd4 hf
  refine r_dalVv (pc := 26) (ws' := (wX12_never E h h_inn h_tape h_far h_from h_real h_other h_kept h_set h_book h_noteSort h_whose h_what h_noteIs h_fitting h_dawn h_likes h_walked h_came h_inn_creak h_inn_doorA h_inn_doorB h_inn_how h_inn_lies h_inn_isCold h_inn_falls h_inn_isFull h_inn_isTold h_inn_act h_inn_what h_inn_then h_inn_met h_inn_bed h_inn_dream h_inn_listens h_inn_name h_inn_nameSort h_inn_nameNumber 0 v_trouble v_where v_read v_taped v_size v_at v_sort v_place v_sign v_number v_fault v_wrongAt v_word v_marks v_notes v_inn_minutes v_inn_rooms v_inn_doors v_inn_things v_inn_dreams v_inn_sleepers v_inn_listeners v_inn_names v_other_26 v_inn_how v_inn_lies v_inn_isFull v_inn_bed v_inn_isTold v_inn_act v_inn_then v_inn_what v_inn_doorA v_inn_doorB v_from_26 v_inn_falls v_inn_creak v_inn_listens v_far v_inn_isCold v_inn_met v_fitting_20 v_book v_noteSort v_whose v_what v_noteIs v_dawn_26 v_likes_26)) (As := [.int r_20]) (rest := []) C (ctX12_compares l E h h_inn h_tape h_far h_from h_real h_other h_kept h_set h_book h_noteSort h_whose h_what h_noteIs h_fitting h_dawn h_likes h_walked h_came h_inn_creak h_inn_doorA h_inn_doorB h_inn_how h_inn_lies h_inn_isCold h_inn_falls h_inn_isFull h_inn_isTold h_inn_act h_inn_what h_inn_then h_inn_met h_inn_bed h_inn_dream h_inn_listens h_inn_name h_inn_nameSort h_inn_nameNumber 0 v_trouble v_where v_read v_taped v_size v_at v_sort v_place v_sign v_number v_fault v_wrongAt v_word v_marks v_notes v_inn_minutes v_inn_rooms v_inn_doors v_inn_things v_inn_dreams v_inn_sleepers v_inn_listeners v_inn_names v_dawn v_likes v_fitting_20 v_other_20 v_inn_how v_inn_lies v_inn_isFull v_inn_bed v_inn_isTold v_inn_act v_inn_then v_inn_what v_inn_doorA v_inn_doorB v_from_20 v_inn_falls v_inn_creak v_inn_listens v_far v_inn_isCold v_inn_met N r_20 (v_dawn_26, v_likes_26, v_other_26, v_from_26) hc_26) ml_X12_483 ⟨Nat.le_of_ble_eq_true rfl, Nat.le_of_ble_eq_true rfl⟩ hP hD hS 0 rfl rfl rfl [0, 1, 26, 27, 20, 2, 3, 4, 5, 6, 7, 8, 9, 10, 11, 12, 13, 14, 15, 16, 17, 18, 19] [28, 29, 33, 34, 35, 36, 37, 38, 39, 40, 41, 42, 43, 44, 45, 46, 47, 48, 49, 50, 32, 21, 22, 23, 24, 25, 30, 31] 28 rfl rfl rfl rfl rfl rfl rfl hl.1 rfl (Nat.le_of_ble_eq_true rfl) ⟨Nat.zero_le _, Nat.zero_le _⟩ dX12_never_26 ?_
  clear hP hD hS; intro H locs hP hD hS
  refine lv_iconst (pc := 29) (v := 0) hx hb dX12_never_29 (by decide) ?_
  refine lv_istore_n (pc := 30) (lv' := [(2, .int 0), (1, .int r_20), (0, .ref h)]) hx hb dX12_never_30 rfl hl (by decide) rfl (fun ls hl => ?_)
  refine lv_iconst (pc := 31) (v := 0) hx hb dX12_never_31 (by decide) ?_
  refine lv_istore_n (pc := 32) (lv' := [(3, .int 0), (2, .int 0), (1, .int r_20), (0, .ref h)]) hx hb dX12_never_32 rfl hl (by decide) rfl (fun ls hl => ?_)
  have key33 : ∀ (n : Nat) (x33_2 : Int32) (x33_3 : Int32) , lp (BX12_never_33 r_20 N v_other_26 v_from_26 v_fitting_20 v_dawn_26 v_likes_26) n (x33_2, x33_3) = some z → AT p l e (rmOf 9 209) s m args below meth c E A Q 0 0 5 [(0, .ref h), (1, .int r_20), (2, .int x33_2), (3, .int x33_3)] (wX12_never E h h_inn h_tape h_far h_from h_real h_other h_kept h_set h_book h_noteSort h_whose h_what h_noteIs h_fitting h_dawn h_likes h_walked h_came h_inn_creak h_inn_doorA h_inn_doorB h_inn_how h_inn_lies h_inn_isCold h_inn_falls h_inn_isFull h_inn_isTold h_inn_act h_inn_what h_inn_then h_inn_met h_inn_bed h_inn_dream h_inn_listens h_inn_name h_inn_nameSort h_inn_nameNumber 0 v_trouble v_where v_read v_taped v_size v_at v_sort v_place v_sign v_number v_fault v_wrongAt v_word v_marks v_notes v_inn_minutes v_inn_rooms v_inn_doors v_inn_things v_inn_dreams v_inn_sleepers v_inn_listeners v_inn_names v_other_26 v_inn_how v_inn_lies v_inn_isFull v_inn_bed v_inn_isTold v_inn_act v_inn_then v_inn_what v_inn_doorA v_inn_doorB v_from_26 v_inn_falls v_inn_creak v_inn_listens v_far v_inn_isCold v_inn_met v_fitting_20 v_book v_noteSort v_whose v_what v_noteIs v_dawn_26 v_likes_26) 33 [] := by
    intro n
    induction n with
    | zero => intro x33_2 x33_3 hf; exact (lp_0 hf).elim
    | succ n ih33 =>
      intro x33_2 x33_3 hf H locs ls hl hP hD hS
      replace hf := lp_s hf
      generalize lp (BX12_never_33 r_20 N v_other_26 v_from_26 v_fitting_20 v_dawn_26 v_likes_26) n = rec33 at ih33 hf
      unfold BX12_never_33 at hf
      replace hf := un2_s hf
      refine lv_iload_n (pc := 33) hx hb dX12_never_33 rfl (lv_at hl 3 rfl) ?_
      refine lv_iload_n (pc := 34) hx hb dX12_never_34 rfl (lv_at hl 1 rfl) ?_
      refine lv_icmp_ge (pc := 35) (tgt := 83) hx hb dX12_never_35 (by decide) (fun c_35 => ?_) (fun c_35 => ?_)
      · replace hf := it_t c_35 hf
        refine lv_aload_n (pc := 83) hx hb dX12_never_83 rfl (lv_at hl 0 rfl) ?_
        refine lv_iload_n (pc := 84) hx hb dX12_never_84 rfl (lv_at hl 2 rfl) ?_
        obtain ⟨r_85, v_trouble_85, v_where_85, hc_85, hf⟩ := bd3 hf
        refine r_dalVi (pc := 85) (ws' := (wX12_never E h h_inn h_tape h_far h_from h_real h_other h_kept h_set h_book h_noteSort h_whose h_what h_noteIs h_fitting h_dawn h_likes h_walked h_came h_inn_creak h_inn_doorA h_inn_doorB h_inn_how h_inn_lies h_inn_isCold h_inn_falls h_inn_isFull h_inn_isTold h_inn_act h_inn_what h_inn_then h_inn_met h_inn_bed h_inn_dream h_inn_listens h_inn_name h_inn_nameSort h_inn_nameNumber 0 v_trouble_85 v_where_85 v_read v_taped v_size v_at v_sort v_place v_sign v_number v_fault v_wrongAt v_word v_marks v_notes v_inn_minutes v_inn_rooms v_inn_doors v_inn_things v_inn_dreams v_inn_sleepers v_inn_listeners v_inn_names v_other_26 v_inn_how v_inn_lies v_inn_isFull v_inn_bed v_inn_isTold v_inn_act v_inn_then v_inn_what v_inn_doorA v_inn_doorB v_from_26 v_inn_falls v_inn_creak v_inn_listens v_far v_inn_isCold v_inn_met v_fitting_20 v_book v_noteSort v_whose v_what v_noteIs v_dawn_26 v_likes_26)) (As := [.int x33_2]) (rest := []) C (ctX12_good l E h h_tape h_far h_from h_real h_other h_kept h_set h_real h_book h_noteSort h_whose h_what h_noteIs h_fitting h_dawn h_likes h_walked h_came 0 v_trouble v_where (some h_inn) v_read v_taped v_size v_at v_sort v_place v_sign v_number v_fault v_wrongAt v_word v_marks v_notes N x33_2 (r_85, v_trouble_85, v_where_85) hc_85) ml_X12_81 ⟨Nat.le_of_ble_eq_true rfl, Nat.le_of_ble_eq_true rfl⟩ hP hD hS 0 rfl rfl rfl [0] [28, 1, 2, 3, 4, 5, 6, 7, 8, 9, 10, 11, 12, 13, 14, 15, 16, 17, 18, 19, 20, 21, 22, 23, 24, 25, 26, 27] 28 rfl rfl rfl rfl rfl rfl rfl hl.1 rfl (Nat.le_of_ble_eq_true rfl) ⟨Nat.zero_le _, Nat.zero_le _⟩ dX12_never_85 ?_
        clear hP hD hS; intro H locs hP hD hS
        cases hf
        rw [hQ]
        exact r_iret C hr hP hD hS rfl dX12_never_88
      · replace hf := it_f c_35 hf
        refine lv_iconst (pc := 38) (v := 0) hx hb dX12_never_38 (by decide) ?_
        refine lv_istore (pc := 39) (lv' := [(4, .int 0), (0, .ref h), (1, .int r_20), (2, .int x33_2), (3, .int x33_3)]) hx hb dX12_never_39 hl (by decide) rfl (fun ls hl => ?_)
        refine lpK hf (fun K77 eK77 hf => ?_)
        have hK77 : ∀ (x77_2 : Int32) , K77 x77_2 = some z → AT p l e (rmOf 9 209) s m args below meth c E A Q 0 0 5 [(0, .ref h), (1, .int r_20), (2, .int x77_2), (3, .int x33_3)] (wX12_never E h h_inn h_tape h_far h_from h_real h_other h_kept h_set h_book h_noteSort h_whose h_what h_noteIs h_fitting h_dawn h_likes h_walked h_came h_inn_creak h_inn_doorA h_inn_doorB h_inn_how h_inn_lies h_inn_isCold h_inn_falls h_inn_isFull h_inn_isTold h_inn_act h_inn_what h_inn_then h_inn_met h_inn_bed h_inn_dream h_inn_listens h_inn_name h_inn_nameSort h_inn_nameNumber 0 v_trouble v_where v_read v_taped v_size v_at v_sort v_place v_sign v_number v_fault v_wrongAt v_word v_marks v_notes v_inn_minutes v_inn_rooms v_inn_doors v_inn_things v_inn_dreams v_inn_sleepers v_inn_listeners v_inn_names v_other_26 v_inn_how v_inn_lies v_inn_isFull v_inn_bed v_inn_isTold v_inn_act v_inn_then v_inn_what v_inn_doorA v_inn_doorB v_from_26 v_inn_falls v_inn_creak v_inn_listens v_far v_inn_isCold v_inn_met v_fitting_20 v_book v_noteSort v_whose v_what v_noteIs v_dawn_26 v_likes_26) 77 [] := by
          intro x77_2 hf H locs ls hl hP hD hS
          rw [eK77] at hf
          replace hf := un1_s hf
          refine lv_iinc (pc := 77) (v := x33_3 + 1) (lv' := [(3, .int (x33_3 + 1)), (0, .ref h), (1, .int r_20), (2, .int x77_2)]) hx hb dX12_never_77 hl (k := 3) rfl rfl (by decide) rfl (fun ls hl => ?_)
          refine lv_goto (pc := 80) (tgt := 33) hx hb dX12_never_80 (by decide) ?_
          exact ih33 x77_2 (x33_3 + 1) hf _ _ _ (lv_sub hl [1, 2, 3, 0] rfl) hP hD hS
        clear eK77
        have key41 : ∀ (n : Nat) (x41_2 : Int32) (x41_4 : Int32) , lp (BX12_never_41 x33_3 v_likes_26 K77) n (x41_2, x41_4) = some z → AT p l e (rmOf 9 209) s m args below meth c E A Q 0 0 5 [(0, .ref h), (1, .int r_20), (2, .int x41_2), (3, .int x33_3), (4, .int x41_4)] (wX12_never E h h_inn h_tape h_far h_from h_real h_other h_kept h_set h_book h_noteSort h_whose h_what h_noteIs h_fitting h_dawn h_likes h_walked h_came h_inn_creak h_inn_doorA h_inn_doorB h_inn_how h_inn_lies h_inn_isCold h_inn_falls h_inn_isFull h_inn_isTold h_inn_act h_inn_what h_inn_then h_inn_met h_inn_bed h_inn_dream h_inn_listens h_inn_name h_inn_nameSort h_inn_nameNumber 0 v_trouble v_where v_read v_taped v_size v_at v_sort v_place v_sign v_number v_fault v_wrongAt v_word v_marks v_notes v_inn_minutes v_inn_rooms v_inn_doors v_inn_things v_inn_dreams v_inn_sleepers v_inn_listeners v_inn_names v_other_26 v_inn_how v_inn_lies v_inn_isFull v_inn_bed v_inn_isTold v_inn_act v_inn_then v_inn_what v_inn_doorA v_inn_doorB v_from_26 v_inn_falls v_inn_creak v_inn_listens v_far v_inn_isCold v_inn_met v_fitting_20 v_book v_noteSort v_whose v_what v_noteIs v_dawn_26 v_likes_26) 41 [] := by
          intro n
          induction n with
          | zero => intro x41_2 x41_4 hf; exact (lp_0 hf).elim
          | succ n ih41 =>
            intro x41_2 x41_4 hf H locs ls hl hP hD hS
            replace hf := lp_s hf
            generalize lp (BX12_never_41 x33_3 v_likes_26 K77) n = rec41 at ih41 hf
            unfold BX12_never_41 at hf
            replace hf := un2_s hf
            refine lv_iload (pc := 41) hx hb dX12_never_41 (lv_at hl 4 rfl) ?_
            refine lv_iload_n (pc := 43) hx hb dX12_never_43 rfl (lv_at hl 3 rfl) ?_
            refine lv_icmp_ge (pc := 44) (tgt := 77) hx hb dX12_never_44 (by decide) (fun c_44 => ?_) (fun c_44 => ?_)
            · replace hf := it_t c_44 hf
              exact hK77 x41_2 hf _ _ _ (lv_sub hl [0, 1, 2, 3] rfl) hP hD hS
            · replace hf := it_f c_44 hf
              refine lv_iload_n (pc := 47) hx hb dX12_never_47 rfl (lv_at hl 2 rfl) ?_
              refine lv_aload_n (pc := 48) hx hb dX12_never_48 rfl (lv_at hl 0 rfl) ?_
              refine r_get (pc := 49) C hP 0 rfl fl_X12_61 rfl dX12_never_49 ?_
              refine lv_iload_n (pc := 52) hx hb dX12_never_52 rfl (lv_at hl 3 rfl) ?_
              obtain ⟨hi_53, hf⟩ := gd_s hf
              refine r_lald (pc := 53) C hP 27 rfl hi_53 dX12_never_53 ?_
              refine lv_iload (pc := 54) hx hb dX12_never_54 (lv_at hl 4 rfl) ?_
              refine lv_lshr (pc := 56) (v := (v_likes_26 x33_3.toNatClampNeg) >>> (x41_4.toInt64 &&& 63)) hx hb dX12_never_56 rfl ?_
              refine lv_lconst (pc := 57) (v := 1) hx hb dX12_never_57 (by decide) ?_
              refine lv_land (pc := 58) hx hb dX12_never_58 ?_
              refine lv_lconst (pc := 59) (v := 1) hx hb dX12_never_59 (by decide) ?_
              refine W.lcmp (pc := 60) hx hb dX12_never_60 ?_
              refine jnK hf (fun j69 ej69 hf => ?_)
              have hj69 : ∀ (x69_s0 : Int32) (x69_s1 : Int32) , j69 (x69_s0, x69_s1) = some z → AT p l e (rmOf 9 209) s m args below meth c E A Q 0 0 5 [(0, .ref h), (1, .int r_20), (3, .int x33_3), (4, .int x41_4)] (wX12_never E h h_inn h_tape h_far h_from h_real h_other h_kept h_set h_book h_noteSort h_whose h_what h_noteIs h_fitting h_dawn h_likes h_walked h_came h_inn_creak h_inn_doorA h_inn_doorB h_inn_how h_inn_lies h_inn_isCold h_inn_falls h_inn_isFull h_inn_isTold h_inn_act h_inn_what h_inn_then h_inn_met h_inn_bed h_inn_dream h_inn_listens h_inn_name h_inn_nameSort h_inn_nameNumber 0 v_trouble v_where v_read v_taped v_size v_at v_sort v_place v_sign v_number v_fault v_wrongAt v_word v_marks v_notes v_inn_minutes v_inn_rooms v_inn_doors v_inn_things v_inn_dreams v_inn_sleepers v_inn_listeners v_inn_names v_other_26 v_inn_how v_inn_lies v_inn_isFull v_inn_bed v_inn_isTold v_inn_act v_inn_then v_inn_what v_inn_doorA v_inn_doorB v_from_26 v_inn_falls v_inn_creak v_inn_listens v_far v_inn_isCold v_inn_met v_fitting_20 v_book v_noteSort v_whose v_what v_noteIs v_dawn_26 v_likes_26) 69 [.int x69_s1, .int x69_s0] := by
                intro x69_s0 x69_s1 hf H locs ls hl hP hD hS
                rw [ej69] at hf
                replace hf := un2_s hf
                refine lv_iadd (pc := 69) hx hb dX12_never_69 ?_
                refine lv_istore_n (pc := 70) (lv' := [(2, .int (x69_s0 + x69_s1)), (0, .ref h), (1, .int r_20), (3, .int x33_3), (4, .int x41_4)]) hx hb dX12_never_70 rfl hl (by decide) rfl (fun ls hl => ?_)
                refine lv_iinc (pc := 71) (v := x41_4 + 1) (lv' := [(4, .int (x41_4 + 1)), (2, .int (x69_s0 + x69_s1)), (0, .ref h), (1, .int r_20), (3, .int x33_3)]) hx hb dX12_never_71 hl (k := 4) rfl rfl (by decide) rfl (fun ls hl => ?_)
                refine lv_goto (pc := 74) (tgt := 41) hx hb dX12_never_74 (by decide) ?_
                exact ih41 (x69_s0 + x69_s1) (x41_4 + 1) hf _ _ _ (lv_sub hl [2, 3, 1, 4, 0] rfl) hP hD hS
              clear ej69
              refine lv_if_ne (pc := 61) (tgt := 68) hx hb dX12_never_61 (by decide) (fun c_61 => ?_) (fun c_61 => ?_)
              · replace hf := it_f c_61 hf
                refine lv_iconst (pc := 68) (v := 0) hx hb dX12_never_68 (by decide) ?_
                exact hj69 x41_2 0 hf _ _ _ (lv_sub hl [0, 1, 3, 4] rfl) hP hD hS
              · replace hf := it_t c_61 hf
                refine lv_iconst (pc := 64) (v := 1) hx hb dX12_never_64 (by decide) ?_
                refine lv_goto (pc := 65) (tgt := 69) hx hb dX12_never_65 (by decide) ?_
                exact hj69 x41_2 1 hf _ _ _ (lv_sub hl [0, 1, 3, 4] rfl) hP hD hS
        exact key41 _ x33_2 0 hf _ _ _ (lv_sub hl [1, 2, 3, 4, 0] rfl) hP hD hS
  exact key33 _ 0 0 hf _ _ _ (lv_sub hl [3, 2, 1, 0] rfl) hP hD hS
def wX12_never0 (E : EN) (h h_tape h_far h_from h_real h_other h_kept h_set h_book h_noteSort h_whose h_what h_noteIs h_fitting h_dawn h_likes h_walked h_came : Nat) (v_thrown : Int32) (v_trouble : Int32) (v_where : Int32) (v_read : Option Nat) (v_taped : Int32) (v_size : Int32) (v_at : Int32) (v_sort : Int32) (v_place : Int32) (v_sign : Int32) (v_number : Int32) (v_fault : Int32) (v_wrongAt : Int32) (v_word : Int64) (v_marks : Int32) (v_notes : Int32) : va_W := [(h, .inr (11, [.int v_thrown, .int v_trouble, .int v_where, .null, va_rf v_read, .ref h_tape, .int v_taped, .int v_size, .int v_at, .int v_sort, .int v_place, .int v_sign, .int v_number, .int v_fault, .int v_wrongAt, .long v_word, .ref h_far, .ref h_from, .ref h_real, .ref h_other, .ref h_kept, .ref h_set, .ref h_real, .int v_marks, .int v_notes, .ref h_book, .ref h_noteSort, .ref h_whose, .ref h_what, .ref h_noteIs, .ref h_fitting, .ref h_dawn, .ref h_likes, .ref h_walked, .ref h_came]))]
def fX12_never0 (N : Nat) : Option (Int32 × Int32 × Int32 × Int32) := (fX12_refused N 1).bind (un3 fun (r_14 : Int32) (v_trouble_14 : Int32) (v_where_14 : Int32) => some (r_14, 0, v_trouble_14, v_where_14))
set_option maxHeartbeats 4000000 in
set_option maxRecDepth 100000 in
theorem ctX12_never0 (l : Launch) (E : EN) (h h_tape h_far h_from h_real h_other h_kept h_set h_book h_noteSort h_whose h_what h_noteIs h_fitting h_dawn h_likes h_walked h_came : Nat) (v_thrown : Int32) (v_trouble : Int32) (v_where : Int32) (v_read : Option Nat) (v_taped : Int32) (v_size : Int32) (v_at : Int32) (v_sort : Int32) (v_place : Int32) (v_sign : Int32) (v_number : Int32) (v_fault : Int32) (v_wrongAt : Int32) (v_word : Int64) (v_marks : Int32) (v_notes : Int32) (N : Nat) (z : Int32 × Int32 × Int32 × Int32) (hf : fX12_never0 N  = some z) : CTi l E yX12_never cX12_never 5 .int 1 21 [.ref h] (wX12_never0 E h h_tape h_far h_from h_real h_other h_kept h_set h_book h_noteSort h_whose h_what h_noteIs h_fitting h_dawn h_likes h_walked h_came v_thrown v_trouble v_where v_read v_taped v_size v_at v_sort v_place v_sign v_number v_fault v_wrongAt v_word v_marks v_notes) (z.1) (wX12_never0 E h h_tape h_far h_from h_real h_other h_kept h_set h_book h_noteSort h_whose h_what h_noteIs h_fitting h_dawn h_likes h_walked h_came z.2.1 z.2.2.1 z.2.2.2 v_read v_taped v_size v_at v_sort v_place v_sign v_number v_fault v_wrongAt v_word v_marks v_notes) := by
  intro sz
  refine ct_body (by decide) (Nat.le_of_ble_eq_true rfl) ?_
  intro p e s m args below meth c A ls hAe C hr hin hP hD hS hl
  have C : CX p s m args meth c cX12_never RX12 5 E A := C
  have hl : lv_has ls 5 [(0, .ref h)] := hl
  have hx := C.1
  have hb := C.2.1
  rw [hAe]
  clear hAe
  obtain ⟨Q, hQ⟩ : ∃ Q, Q = MQ below (Qi E A (z.1) (wX12_never0 E h h_tape h_far h_from h_real h_other h_kept h_set h_book h_noteSort h_whose h_what h_noteIs h_fitting h_dawn h_likes h_walked h_came z.2.1 z.2.2.1 z.2.2.2 v_read v_taped v_size v_at v_sort v_place v_sign v_number v_fault v_wrongAt v_word v_marks v_notes)) args s 0 0 A := ⟨_, rfl⟩
  rw [← hQ]
  unfold fX12_never0 at hf
  refine lv_aload_n (pc := 0) hx hb dX12_never_0 rfl (lv_at hl 0 rfl) ?_
  refine lv_iconst (pc := 1) (v := 0) hx hb dX12_never_1 (by decide) ?_
  refine r_put (pc := 2) (ws' := (wX12_never0 E h h_tape h_far h_from h_real h_other h_kept h_set h_book h_noteSort h_whose h_what h_noteIs h_fitting h_dawn h_likes h_walked h_came 0 v_trouble v_where v_read v_taped v_size v_at v_sort v_place v_sign v_number v_fault v_wrongAt v_word v_marks v_notes)) C hP hD hS 0 rfl fl_X12_71 rfl rfl (Nat.le_of_ble_eq_true rfl) rfl dX12_never_2 ?_
  clear hP hD hS; intro H locs hP hD hS
  refine lv_aload_n (pc := 5) hx hb dX12_never_5 rfl (lv_at hl 0 rfl) ?_
  refine r_get (pc := 6) C hP 0 rfl fl_X12_358 rfl dX12_never_6 ?_
  refine lv_ifnonnullN (pc := 9) hx hb dX12_never_9 ?_
  refine lv_aload_n (pc := 12) hx hb dX12_never_12 rfl (lv_at hl 0 rfl) ?_
  refine lv_iconst (pc := 13) (v := 1) hx hb dX12_never_13 (by decide) ?_
  obtain ⟨r_14, v_trouble_14, v_where_14, hc_14, hf⟩ := bd3 hf
  refine r_dalVi (pc := 14) (ws' := (wX12_never0 E h h_tape h_far h_from h_real h_other h_kept h_set h_book h_noteSort h_whose h_what h_noteIs h_fitting h_dawn h_likes h_walked h_came 0 v_trouble_14 v_where_14 v_read v_taped v_size v_at v_sort v_place v_sign v_number v_fault v_wrongAt v_word v_marks v_notes)) (As := [.int 1]) (rest := []) C (ctX12_refused l E h h_tape h_far h_from h_real h_other h_kept h_set h_real h_book h_noteSort h_whose h_what h_noteIs h_fitting h_dawn h_likes h_walked h_came 0 v_trouble v_where none v_read v_taped v_size v_at v_sort v_place v_sign v_number v_fault v_wrongAt v_word v_marks v_notes N 1 (r_14, v_trouble_14, v_where_14) hc_14) ml_X12_77 ⟨Nat.le_of_ble_eq_true rfl, Nat.le_of_ble_eq_true rfl⟩ hP hD hS 0 rfl rfl rfl [0] [1] 1 rfl rfl rfl rfl rfl rfl rfl hl.1 rfl (Nat.le_of_ble_eq_true rfl) ⟨Nat.zero_le _, Nat.zero_le _⟩ dX12_never_14 ?_
  clear hP hD hS; intro H locs hP hD hS
  cases hf
  rw [hQ]
  exact r_iret C hr hP hD hS rfl dX12_never_17
def wX12_toldLocked (E : EN) (h h_inn h_tape h_far h_from h_real h_other h_kept h_set h_w h_book h_noteSort h_whose h_what h_noteIs h_fitting h_dawn h_likes h_walked h_came h_inn_creak h_inn_doorA h_inn_doorB h_inn_how h_inn_lies h_inn_isCold h_inn_falls h_inn_isFull h_inn_isTold h_inn_act h_inn_what h_inn_then h_inn_met h_inn_bed h_inn_dream h_inn_listens h_inn_name h_inn_nameSort h_inn_nameNumber : Nat) (v_thrown : Int32) (v_trouble : Int32) (v_where : Int32) (v_read : Option Nat) (v_taped : Int32) (v_size : Int32) (v_at : Int32) (v_sort : Int32) (v_place : Int32) (v_sign : Int32) (v_number : Int32) (v_fault : Int32) (v_wrongAt : Int32) (v_word : Int64) (v_marks : Int32) (v_notes : Int32) (v_inn_minutes : Int32) (v_inn_rooms : Int32) (v_inn_doors : Int32) (v_inn_things : Int32) (v_inn_dreams : Int32) (v_inn_sleepers : Int32) (v_inn_listeners : Int32) (v_inn_names : Int32) (v_inn_how : Nat → Int32) : va_W := [(h, .inr (11, [.int v_thrown, .int v_trouble, .int v_where, .ref h_inn, va_rf v_read, .ref h_tape, .int v_taped, .int v_size, .int v_at, .int v_sort, .int v_place, .int v_sign, .int v_number, .int v_fault, .int v_wrongAt, .long v_word, .ref h_far, .ref h_from, .ref h_real, .ref h_other, .ref h_kept, .ref h_set, .ref h_w, .int v_marks, .int v_notes, .ref h_book, .ref h_noteSort, .ref h_whose, .ref h_what, .ref h_noteIs, .ref h_fitting, .ref h_dawn, .ref h_likes, .ref h_walked, .ref h_came])), (h_inn, .inr (10, [.int v_inn_minutes, .int v_inn_rooms, .int v_inn_doors, .int v_inn_things, .int v_inn_dreams, .int v_inn_sleepers, .int v_inn_listeners, .int v_inn_names, .ref h_inn_creak, .ref h_inn_doorA, .ref h_inn_doorB, .ref h_inn_how, .ref h_inn_lies, .ref h_inn_isCold, .ref h_inn_falls, .ref h_inn_isFull, .ref h_inn_isTold, .ref h_inn_act, .ref h_inn_what, .ref h_inn_then, .ref h_inn_met, .ref h_inn_bed, .ref h_inn_dream, .ref h_inn_listens, .ref h_inn_name, .ref h_inn_nameSort, .ref h_inn_nameNumber])), (h_inn_how, aI E 10 v_inn_how)]
def BX12_toldLocked_4 (v_inn_doors : Int32) (v_inn_how : Nat → Int32) (rec4 : (Int32 × Int32) → Option Int32) : (Int32 × Int32) → Option Int32 := un2 fun (x4_1 : Int32) (x4_2 : Int32) => if v_inn_doors ≤ x4_2 then (some x4_1) else (gd x4_2 10 (jn (un2 fun (x36_s0 : Int32) (x36_s1 : Int32) => rec4 (x36_s0 ||| x36_s1, x4_2 + 1)) (fun j36 => if (v_inn_how x4_2.toNatClampNeg) = 2 then (j36 (x4_1, 1 <<< (x4_2 &&& 31))) else (j36 (x4_1, 0)))))
def fX12_toldLocked (N : Nat) (v_inn_doors : Int32) (v_inn_how : Nat → Int32) : Option Int32 := lp (BX12_toldLocked_4 v_inn_doors v_inn_how) N (0, 0)
set_option maxHeartbeats 4000000 in
set_option maxRecDepth 100000 in
theorem ctX12_toldLocked (l : Launch) (E : EN) (h h_inn h_tape h_far h_from h_real h_other h_kept h_set h_w h_book h_noteSort h_whose h_what h_noteIs h_fitting h_dawn h_likes h_walked h_came h_inn_creak h_inn_doorA h_inn_doorB h_inn_how h_inn_lies h_inn_isCold h_inn_falls h_inn_isFull h_inn_isTold h_inn_act h_inn_what h_inn_then h_inn_met h_inn_bed h_inn_dream h_inn_listens h_inn_name h_inn_nameSort h_inn_nameNumber : Nat) (v_thrown : Int32) (v_trouble : Int32) (v_where : Int32) (v_read : Option Nat) (v_taped : Int32) (v_size : Int32) (v_at : Int32) (v_sort : Int32) (v_place : Int32) (v_sign : Int32) (v_number : Int32) (v_fault : Int32) (v_wrongAt : Int32) (v_word : Int64) (v_marks : Int32) (v_notes : Int32) (v_inn_minutes : Int32) (v_inn_rooms : Int32) (v_inn_doors : Int32) (v_inn_things : Int32) (v_inn_dreams : Int32) (v_inn_sleepers : Int32) (v_inn_listeners : Int32) (v_inn_names : Int32) (v_inn_how : Nat → Int32) (N : Nat) (z : Int32) (hf : fX12_toldLocked N v_inn_doors v_inn_how = some z) : CTi l E yX12_toldLocked cX12_toldLocked 3 .int 0 0 [.ref h] (wX12_toldLocked E h h_inn h_tape h_far h_from h_real h_other h_kept h_set h_w h_book h_noteSort h_whose h_what h_noteIs h_fitting h_dawn h_likes h_walked h_came h_inn_creak h_inn_doorA h_inn_doorB h_inn_how h_inn_lies h_inn_isCold h_inn_falls h_inn_isFull h_inn_isTold h_inn_act h_inn_what h_inn_then h_inn_met h_inn_bed h_inn_dream h_inn_listens h_inn_name h_inn_nameSort h_inn_nameNumber v_thrown v_trouble v_where v_read v_taped v_size v_at v_sort v_place v_sign v_number v_fault v_wrongAt v_word v_marks v_notes v_inn_minutes v_inn_rooms v_inn_doors v_inn_things v_inn_dreams v_inn_sleepers v_inn_listeners v_inn_names v_inn_how) (z) (wX12_toldLocked E h h_inn h_tape h_far h_from h_real h_other h_kept h_set h_w h_book h_noteSort h_whose h_what h_noteIs h_fitting h_dawn h_likes h_walked h_came h_inn_creak h_inn_doorA h_inn_doorB h_inn_how h_inn_lies h_inn_isCold h_inn_falls h_inn_isFull h_inn_isTold h_inn_act h_inn_what h_inn_then h_inn_met h_inn_bed h_inn_dream h_inn_listens h_inn_name h_inn_nameSort h_inn_nameNumber v_thrown v_trouble v_where v_read v_taped v_size v_at v_sort v_place v_sign v_number v_fault v_wrongAt v_word v_marks v_notes v_inn_minutes v_inn_rooms v_inn_doors v_inn_things v_inn_dreams v_inn_sleepers v_inn_listeners v_inn_names v_inn_how) := by
  intro sz
  refine ct_body (by decide) (Nat.le_of_ble_eq_true rfl) ?_
  intro p e s m args below meth c A ls hAe C hr hin hP hD hS hl
  have C : CX p s m args meth c cX12_toldLocked RX12 3 E A := C
  have hl : lv_has ls 3 [(0, .ref h)] := hl
  have hx := C.1
  have hb := C.2.1
  rw [hAe]
  clear hAe
  obtain ⟨Q, hQ⟩ : ∃ Q, Q = MQ below (Qi E A (z) (wX12_toldLocked E h h_inn h_tape h_far h_from h_real h_other h_kept h_set h_w h_book h_noteSort h_whose h_what h_noteIs h_fitting h_dawn h_likes h_walked h_came h_inn_creak h_inn_doorA h_inn_doorB h_inn_how h_inn_lies h_inn_isCold h_inn_falls h_inn_isFull h_inn_isTold h_inn_act h_inn_what h_inn_then h_inn_met h_inn_bed h_inn_dream h_inn_listens h_inn_name h_inn_nameSort h_inn_nameNumber v_thrown v_trouble v_where v_read v_taped v_size v_at v_sort v_place v_sign v_number v_fault v_wrongAt v_word v_marks v_notes v_inn_minutes v_inn_rooms v_inn_doors v_inn_things v_inn_dreams v_inn_sleepers v_inn_listeners v_inn_names v_inn_how)) args s 0 0 A := ⟨_, rfl⟩
  rw [← hQ]
  unfold fX12_toldLocked at hf
  refine lv_iconst (pc := 0) (v := 0) hx hb dX12_toldLocked_0 (by decide) ?_
  refine lv_istore_n (pc := 1) (lv' := [(1, .int 0), (0, .ref h)]) hx hb dX12_toldLocked_1 rfl hl (by decide) rfl (fun ls hl => ?_)
  refine lv_iconst (pc := 2) (v := 0) hx hb dX12_toldLocked_2 (by decide) ?_
  refine lv_istore_n (pc := 3) (lv' := [(2, .int 0), (1, .int 0), (0, .ref h)]) hx hb dX12_toldLocked_3 rfl hl (by decide) rfl (fun ls hl => ?_)
  have key4 : ∀ (n : Nat) (x4_1 : Int32) (x4_2 : Int32) , lp (BX12_toldLocked_4 v_inn_doors v_inn_how) n (x4_1, x4_2) = some z → AT p l e (rmOf 0 0) s m args below meth c E A Q 0 0 3 [(0, .ref h), (1, .int x4_1), (2, .int x4_2)] (wX12_toldLocked E h h_inn h_tape h_far h_from h_real h_other h_kept h_set h_w h_book h_noteSort h_whose h_what h_noteIs h_fitting h_dawn h_likes h_walked h_came h_inn_creak h_inn_doorA h_inn_doorB h_inn_how h_inn_lies h_inn_isCold h_inn_falls h_inn_isFull h_inn_isTold h_inn_act h_inn_what h_inn_then h_inn_met h_inn_bed h_inn_dream h_inn_listens h_inn_name h_inn_nameSort h_inn_nameNumber v_thrown v_trouble v_where v_read v_taped v_size v_at v_sort v_place v_sign v_number v_fault v_wrongAt v_word v_marks v_notes v_inn_minutes v_inn_rooms v_inn_doors v_inn_things v_inn_dreams v_inn_sleepers v_inn_listeners v_inn_names v_inn_how) 4 [] := by
    intro n
    induction n with
    | zero => intro x4_1 x4_2 hf; exact (lp_0 hf).elim
    | succ n ih4 =>
      intro x4_1 x4_2 hf H locs ls hl hP hD hS
      replace hf := lp_s hf
      generalize lp (BX12_toldLocked_4 v_inn_doors v_inn_how) n = rec4 at ih4 hf
      unfold BX12_toldLocked_4 at hf
      replace hf := un2_s hf
      refine lv_iload_n (pc := 4) hx hb dX12_toldLocked_4 rfl (lv_at hl 2 rfl) ?_
      refine lv_aload_n (pc := 5) hx hb dX12_toldLocked_5 rfl (lv_at hl 0 rfl) ?_
      refine r_get (pc := 6) C hP 0 rfl fl_X12_358 rfl dX12_toldLocked_6 ?_
      refine r_get (pc := 9) C hP 1 rfl fl_X12_292 rfl dX12_toldLocked_9 ?_
      refine lv_icmp_ge (pc := 12) (tgt := 44) hx hb dX12_toldLocked_12 (by decide) (fun c_12 => ?_) (fun c_12 => ?_)
      · replace hf := it_t c_12 hf
        refine lv_iload_n (pc := 44) hx hb dX12_toldLocked_44 rfl (lv_at hl 1 rfl) ?_
        cases hf
        rw [hQ]
        exact r_iret C hr hP hD hS rfl dX12_toldLocked_45
      · replace hf := it_f c_12 hf
        refine lv_iload_n (pc := 15) hx hb dX12_toldLocked_15 rfl (lv_at hl 1 rfl) ?_
        refine lv_aload_n (pc := 16) hx hb dX12_toldLocked_16 rfl (lv_at hl 0 rfl) ?_
        refine r_get (pc := 17) C hP 0 rfl fl_X12_358 rfl dX12_toldLocked_17 ?_
        refine r_get (pc := 20) C hP 1 rfl fl_X12_310 rfl dX12_toldLocked_20 ?_
        refine lv_iload_n (pc := 23) hx hb dX12_toldLocked_23 rfl (lv_at hl 2 rfl) ?_
        obtain ⟨hi_24, hf⟩ := gd_s hf
        refine r_iald (pc := 24) C hP 2 rfl hi_24 dX12_toldLocked_24 ?_
        refine lv_iconst (pc := 25) (v := 2) hx hb dX12_toldLocked_25 (by decide) ?_
        refine jnK hf (fun j36 ej36 hf => ?_)
        have hj36 : ∀ (x36_s0 : Int32) (x36_s1 : Int32) , j36 (x36_s0, x36_s1) = some z → AT p l e (rmOf 0 0) s m args below meth c E A Q 0 0 3 [(0, .ref h), (2, .int x4_2)] (wX12_toldLocked E h h_inn h_tape h_far h_from h_real h_other h_kept h_set h_w h_book h_noteSort h_whose h_what h_noteIs h_fitting h_dawn h_likes h_walked h_came h_inn_creak h_inn_doorA h_inn_doorB h_inn_how h_inn_lies h_inn_isCold h_inn_falls h_inn_isFull h_inn_isTold h_inn_act h_inn_what h_inn_then h_inn_met h_inn_bed h_inn_dream h_inn_listens h_inn_name h_inn_nameSort h_inn_nameNumber v_thrown v_trouble v_where v_read v_taped v_size v_at v_sort v_place v_sign v_number v_fault v_wrongAt v_word v_marks v_notes v_inn_minutes v_inn_rooms v_inn_doors v_inn_things v_inn_dreams v_inn_sleepers v_inn_listeners v_inn_names v_inn_how) 36 [.int x36_s1, .int x36_s0] := by
          intro x36_s0 x36_s1 hf H locs ls hl hP hD hS
          rw [ej36] at hf
          replace hf := un2_s hf
          refine lv_ior (pc := 36) hx hb dX12_toldLocked_36 ?_
          refine lv_istore_n (pc := 37) (lv' := [(1, .int (x36_s0 ||| x36_s1)), (0, .ref h), (2, .int x4_2)]) hx hb dX12_toldLocked_37 rfl hl (by decide) rfl (fun ls hl => ?_)
          refine lv_iinc (pc := 38) (v := x4_2 + 1) (lv' := [(2, .int (x4_2 + 1)), (1, .int (x36_s0 ||| x36_s1)), (0, .ref h)]) hx hb dX12_toldLocked_38 hl (k := 2) rfl rfl (by decide) rfl (fun ls hl => ?_)
          refine lv_goto (pc := 41) (tgt := 4) hx hb dX12_toldLocked_41 (by decide) ?_
          exact ih4 (x36_s0 ||| x36_s1) (x4_2 + 1) hf _ _ _ (lv_sub hl [2, 1, 0] rfl) hP hD hS
        clear ej36
        refine lv_icmp_ne (pc := 26) (tgt := 35) hx hb dX12_toldLocked_26 (by decide) (fun c_26 => ?_) (fun c_26 => ?_)
        · replace hf := it_f c_26 hf
          refine lv_iconst (pc := 35) (v := 0) hx hb dX12_toldLocked_35 (by decide) ?_
          exact hj36 x4_1 0 hf _ _ _ (lv_sub hl [0, 2] rfl) hP hD hS
        · replace hf := it_t c_26 hf
          refine lv_iconst (pc := 29) (v := 1) hx hb dX12_toldLocked_29 (by decide) ?_
          refine lv_iload_n (pc := 30) hx hb dX12_toldLocked_30 rfl (lv_at hl 2 rfl) ?_
          refine lv_ishl (pc := 31) hx hb dX12_toldLocked_31 ?_
          refine lv_goto (pc := 32) (tgt := 36) hx hb dX12_toldLocked_32 (by decide) ?_
          exact hj36 x4_1 (1 <<< (x4_2 &&& 31)) hf _ _ _ (lv_sub hl [0, 2] rfl) hP hD hS
  exact key4 _ 0 0 hf _ _ _ (lv_sub hl [2, 1, 0] rfl) hP hD hS
def wX12_isBed (E : EN) (h h_inn h_tape h_far h_from h_real h_other h_kept h_set h_w h_book h_noteSort h_whose h_what h_noteIs h_fitting h_dawn h_likes h_walked h_came h_inn_creak h_inn_doorA h_inn_doorB h_inn_how h_inn_lies h_inn_isCold h_inn_falls h_inn_isFull h_inn_isTold h_inn_act h_inn_what h_inn_then h_inn_met h_inn_bed h_inn_dream h_inn_listens h_inn_name h_inn_nameSort h_inn_nameNumber : Nat) (v_thrown : Int32) (v_trouble : Int32) (v_where : Int32) (v_read : Option Nat) (v_taped : Int32) (v_size : Int32) (v_at : Int32) (v_sort : Int32) (v_place : Int32) (v_sign : Int32) (v_number : Int32) (v_fault : Int32) (v_wrongAt : Int32) (v_word : Int64) (v_marks : Int32) (v_notes : Int32) (v_inn_minutes : Int32) (v_inn_rooms : Int32) (v_inn_doors : Int32) (v_inn_things : Int32) (v_inn_dreams : Int32) (v_inn_sleepers : Int32) (v_inn_listeners : Int32) (v_inn_names : Int32) (v_inn_bed : Nat → Int32) : va_W := [(h, .inr (11, [.int v_thrown, .int v_trouble, .int v_where, .ref h_inn, va_rf v_read, .ref h_tape, .int v_taped, .int v_size, .int v_at, .int v_sort, .int v_place, .int v_sign, .int v_number, .int v_fault, .int v_wrongAt, .long v_word, .ref h_far, .ref h_from, .ref h_real, .ref h_other, .ref h_kept, .ref h_set, .ref h_w, .int v_marks, .int v_notes, .ref h_book, .ref h_noteSort, .ref h_whose, .ref h_what, .ref h_noteIs, .ref h_fitting, .ref h_dawn, .ref h_likes, .ref h_walked, .ref h_came])), (h_inn, .inr (10, [.int v_inn_minutes, .int v_inn_rooms, .int v_inn_doors, .int v_inn_things, .int v_inn_dreams, .int v_inn_sleepers, .int v_inn_listeners, .int v_inn_names, .ref h_inn_creak, .ref h_inn_doorA, .ref h_inn_doorB, .ref h_inn_how, .ref h_inn_lies, .ref h_inn_isCold, .ref h_inn_falls, .ref h_inn_isFull, .ref h_inn_isTold, .ref h_inn_act, .ref h_inn_what, .ref h_inn_then, .ref h_inn_met, .ref h_inn_bed, .ref h_inn_dream, .ref h_inn_listens, .ref h_inn_name, .ref h_inn_nameSort, .ref h_inn_nameNumber])), (h_inn_bed, aI E 3 v_inn_bed)]
def BX12_isBed_2 (v_inn_sleepers : Int32) (v_inn_bed : Nat → Int32) (p0 : Int32) (rec2 : (Int32) → Option Int32) : (Int32) → Option Int32 := un1 fun (x2_2 : Int32) => if v_inn_sleepers ≤ x2_2 then (some 0) else (gd x2_2 3 (if (v_inn_bed x2_2.toNatClampNeg) = p0 then (some 1) else (rec2 (x2_2 + 1))))
def fX12_isBed (N : Nat) (p0 : Int32) (v_inn_sleepers : Int32) (v_inn_bed : Nat → Int32) : Option Int32 := lp (BX12_isBed_2 v_inn_sleepers v_inn_bed p0) N 0
set_option maxHeartbeats 4000000 in
set_option maxRecDepth 100000 in
theorem ctX12_isBed (l : Launch) (E : EN) (h h_inn h_tape h_far h_from h_real h_other h_kept h_set h_w h_book h_noteSort h_whose h_what h_noteIs h_fitting h_dawn h_likes h_walked h_came h_inn_creak h_inn_doorA h_inn_doorB h_inn_how h_inn_lies h_inn_isCold h_inn_falls h_inn_isFull h_inn_isTold h_inn_act h_inn_what h_inn_then h_inn_met h_inn_bed h_inn_dream h_inn_listens h_inn_name h_inn_nameSort h_inn_nameNumber : Nat) (v_thrown : Int32) (v_trouble : Int32) (v_where : Int32) (v_read : Option Nat) (v_taped : Int32) (v_size : Int32) (v_at : Int32) (v_sort : Int32) (v_place : Int32) (v_sign : Int32) (v_number : Int32) (v_fault : Int32) (v_wrongAt : Int32) (v_word : Int64) (v_marks : Int32) (v_notes : Int32) (v_inn_minutes : Int32) (v_inn_rooms : Int32) (v_inn_doors : Int32) (v_inn_things : Int32) (v_inn_dreams : Int32) (v_inn_sleepers : Int32) (v_inn_listeners : Int32) (v_inn_names : Int32) (v_inn_bed : Nat → Int32) (N : Nat) (p0 : Int32) (z : Int32) (hf : fX12_isBed N p0 v_inn_sleepers v_inn_bed = some z) : CTi l E yX12_isBed cX12_isBed 3 .boolean 0 0 [.ref h, .int p0] (wX12_isBed E h h_inn h_tape h_far h_from h_real h_other h_kept h_set h_w h_book h_noteSort h_whose h_what h_noteIs h_fitting h_dawn h_likes h_walked h_came h_inn_creak h_inn_doorA h_inn_doorB h_inn_how h_inn_lies h_inn_isCold h_inn_falls h_inn_isFull h_inn_isTold h_inn_act h_inn_what h_inn_then h_inn_met h_inn_bed h_inn_dream h_inn_listens h_inn_name h_inn_nameSort h_inn_nameNumber v_thrown v_trouble v_where v_read v_taped v_size v_at v_sort v_place v_sign v_number v_fault v_wrongAt v_word v_marks v_notes v_inn_minutes v_inn_rooms v_inn_doors v_inn_things v_inn_dreams v_inn_sleepers v_inn_listeners v_inn_names v_inn_bed) (z) (wX12_isBed E h h_inn h_tape h_far h_from h_real h_other h_kept h_set h_w h_book h_noteSort h_whose h_what h_noteIs h_fitting h_dawn h_likes h_walked h_came h_inn_creak h_inn_doorA h_inn_doorB h_inn_how h_inn_lies h_inn_isCold h_inn_falls h_inn_isFull h_inn_isTold h_inn_act h_inn_what h_inn_then h_inn_met h_inn_bed h_inn_dream h_inn_listens h_inn_name h_inn_nameSort h_inn_nameNumber v_thrown v_trouble v_where v_read v_taped v_size v_at v_sort v_place v_sign v_number v_fault v_wrongAt v_word v_marks v_notes v_inn_minutes v_inn_rooms v_inn_doors v_inn_things v_inn_dreams v_inn_sleepers v_inn_listeners v_inn_names v_inn_bed) := by
  intro sz
  refine ct_body (by decide) (Nat.le_of_ble_eq_true rfl) ?_
  intro p e s m args below meth c A ls hAe C hr hin hP hD hS hl
  have C : CX p s m args meth c cX12_isBed RX12 3 E A := C
  have hl : lv_has ls 3 [(0, .ref h), (1, .int p0)] := hl
  have hx := C.1
  have hb := C.2.1
  rw [hAe]
  clear hAe
  obtain ⟨Q, hQ⟩ : ∃ Q, Q = MQ below (Qi E A (z) (wX12_isBed E h h_inn h_tape h_far h_from h_real h_other h_kept h_set h_w h_book h_noteSort h_whose h_what h_noteIs h_fitting h_dawn h_likes h_walked h_came h_inn_creak h_inn_doorA h_inn_doorB h_inn_how h_inn_lies h_inn_isCold h_inn_falls h_inn_isFull h_inn_isTold h_inn_act h_inn_what h_inn_then h_inn_met h_inn_bed h_inn_dream h_inn_listens h_inn_name h_inn_nameSort h_inn_nameNumber v_thrown v_trouble v_where v_read v_taped v_size v_at v_sort v_place v_sign v_number v_fault v_wrongAt v_word v_marks v_notes v_inn_minutes v_inn_rooms v_inn_doors v_inn_things v_inn_dreams v_inn_sleepers v_inn_listeners v_inn_names v_inn_bed)) args s 0 0 A := ⟨_, rfl⟩
  rw [← hQ]
  unfold fX12_isBed at hf
  refine lv_iconst (pc := 0) (v := 0) hx hb dX12_isBed_0 (by decide) ?_
  refine lv_istore_n (pc := 1) (lv' := [(2, .int 0), (0, .ref h), (1, .int p0)]) hx hb dX12_isBed_1 rfl hl (by decide) rfl (fun ls hl => ?_)
  have key2 : ∀ (n : Nat) (x2_2 : Int32) , lp (BX12_isBed_2 v_inn_sleepers v_inn_bed p0) n x2_2 = some z → AT p l e (rmOf 0 0) s m args below meth c E A Q 0 0 3 [(0, .ref h), (1, .int p0), (2, .int x2_2)] (wX12_isBed E h h_inn h_tape h_far h_from h_real h_other h_kept h_set h_w h_book h_noteSort h_whose h_what h_noteIs h_fitting h_dawn h_likes h_walked h_came h_inn_creak h_inn_doorA h_inn_doorB h_inn_how h_inn_lies h_inn_isCold h_inn_falls h_inn_isFull h_inn_isTold h_inn_act h_inn_what h_inn_then h_inn_met h_inn_bed h_inn_dream h_inn_listens h_inn_name h_inn_nameSort h_inn_nameNumber v_thrown v_trouble v_where v_read v_taped v_size v_at v_sort v_place v_sign v_number v_fault v_wrongAt v_word v_marks v_notes v_inn_minutes v_inn_rooms v_inn_doors v_inn_things v_inn_dreams v_inn_sleepers v_inn_listeners v_inn_names v_inn_bed) 2 [] := by
    intro n
    induction n with
    | zero => intro x2_2 hf; exact (lp_0 hf).elim
    | succ n ih2 =>
      intro x2_2 hf H locs ls hl hP hD hS
      replace hf := lp_s hf
      generalize lp (BX12_isBed_2 v_inn_sleepers v_inn_bed p0) n = rec2 at ih2 hf
      unfold BX12_isBed_2 at hf
      replace hf := un1_s hf
      refine lv_iload_n (pc := 2) hx hb dX12_isBed_2 rfl (lv_at hl 2 rfl) ?_
      refine lv_aload_n (pc := 3) hx hb dX12_isBed_3 rfl (lv_at hl 0 rfl) ?_
      refine r_get (pc := 4) C hP 0 rfl fl_X12_358 rfl dX12_isBed_4 ?_
      refine r_get (pc := 7) C hP 1 rfl fl_X12_247 rfl dX12_isBed_7 ?_
      refine lv_icmp_ge (pc := 10) (tgt := 34) hx hb dX12_isBed_10 (by decide) (fun c_10 => ?_) (fun c_10 => ?_)
      · replace hf := it_t c_10 hf
        refine lv_iconst (pc := 34) (v := 0) hx hb dX12_isBed_34 (by decide) ?_
        cases hf
        rw [hQ]
        exact r_zret C hr hP hD hS (Or.inl rfl) rfl dX12_isBed_35
      · replace hf := it_f c_10 hf
        refine lv_aload_n (pc := 13) hx hb dX12_isBed_13 rfl (lv_at hl 0 rfl) ?_
        refine r_get (pc := 14) C hP 0 rfl fl_X12_358 rfl dX12_isBed_14 ?_
        refine r_get (pc := 17) C hP 1 rfl fl_X12_342 rfl dX12_isBed_17 ?_
        refine lv_iload_n (pc := 20) hx hb dX12_isBed_20 rfl (lv_at hl 2 rfl) ?_
        obtain ⟨hi_21, hf⟩ := gd_s hf
        refine r_iald (pc := 21) C hP 2 rfl hi_21 dX12_isBed_21 ?_
        refine lv_iload_n (pc := 22) hx hb dX12_isBed_22 rfl (lv_at hl 1 rfl) ?_
        refine lv_icmp_ne (pc := 23) (tgt := 28) hx hb dX12_isBed_23 (by decide) (fun c_23 => ?_) (fun c_23 => ?_)
        · replace hf := it_f c_23 hf
          refine lv_iinc (pc := 28) (v := x2_2 + 1) (lv' := [(2, .int (x2_2 + 1)), (0, .ref h), (1, .int p0)]) hx hb dX12_isBed_28 hl (k := 2) rfl rfl (by decide) rfl (fun ls hl => ?_)
          refine lv_goto (pc := 31) (tgt := 2) hx hb dX12_isBed_31 (by decide) ?_
          exact ih2 (x2_2 + 1) hf _ _ _ (lv_sub hl [1, 2, 0] rfl) hP hD hS
        · replace hf := it_t c_23 hf
          refine lv_iconst (pc := 26) (v := 1) hx hb dX12_isBed_26 (by decide) ?_
          cases hf
          rw [hQ]
          exact r_zret C hr hP hD hS (Or.inr rfl) rfl dX12_isBed_27
  exact key2 _ 0 hf _ _ _ (lv_sub hl [1, 2, 0] rfl) hP hD hS
def wX12_safest (E : EN) (h h_inn h_tape h_far h_from h_real h_other h_kept h_set h_w h_book h_noteSort h_whose h_what h_noteIs h_fitting h_dawn h_likes h_walked h_came h_inn_creak h_inn_doorA h_inn_doorB h_inn_how h_inn_lies h_inn_isCold h_inn_falls h_inn_isFull h_inn_isTold h_inn_act h_inn_what h_inn_then h_inn_met h_inn_bed h_inn_dream h_inn_listens h_inn_name h_inn_nameSort h_inn_nameNumber : Nat) (v_thrown : Int32) (v_trouble : Int32) (v_where : Int32) (v_read : Option Nat) (v_taped : Int32) (v_size : Int32) (v_at : Int32) (v_sort : Int32) (v_place : Int32) (v_sign : Int32) (v_number : Int32) (v_fault : Int32) (v_wrongAt : Int32) (v_word : Int64) (v_marks : Int32) (v_notes : Int32) (v_inn_minutes : Int32) (v_inn_rooms : Int32) (v_inn_doors : Int32) (v_inn_things : Int32) (v_inn_dreams : Int32) (v_inn_sleepers : Int32) (v_inn_listeners : Int32) (v_inn_names : Int32) (v_inn_bed : Nat → Int32) (v_inn_how : Nat → Int32) (v_inn_doorA : Nat → Int32) (v_from : Nat → Int32) (v_inn_doorB : Nat → Int32) : va_W := [(h, .inr (11, [.int v_thrown, .int v_trouble, .int v_where, .ref h_inn, va_rf v_read, .ref h_tape, .int v_taped, .int v_size, .int v_at, .int v_sort, .int v_place, .int v_sign, .int v_number, .int v_fault, .int v_wrongAt, .long v_word, .ref h_far, .ref h_from, .ref h_real, .ref h_other, .ref h_kept, .ref h_set, .ref h_w, .int v_marks, .int v_notes, .ref h_book, .ref h_noteSort, .ref h_whose, .ref h_what, .ref h_noteIs, .ref h_fitting, .ref h_dawn, .ref h_likes, .ref h_walked, .ref h_came])), (h_inn, .inr (10, [.int v_inn_minutes, .int v_inn_rooms, .int v_inn_doors, .int v_inn_things, .int v_inn_dreams, .int v_inn_sleepers, .int v_inn_listeners, .int v_inn_names, .ref h_inn_creak, .ref h_inn_doorA, .ref h_inn_doorB, .ref h_inn_how, .ref h_inn_lies, .ref h_inn_isCold, .ref h_inn_falls, .ref h_inn_isFull, .ref h_inn_isTold, .ref h_inn_act, .ref h_inn_what, .ref h_inn_then, .ref h_inn_met, .ref h_inn_bed, .ref h_inn_dream, .ref h_inn_listens, .ref h_inn_name, .ref h_inn_nameSort, .ref h_inn_nameNumber])), (h_inn_bed, aI E 3 v_inn_bed), (h_inn_how, aI E 10 v_inn_how), (h_inn_doorA, aI E 10 v_inn_doorA), (h_from, aI E 8 v_from), (h_inn_doorB, aI E 10 v_inn_doorB)]
def BX12_safest_77 (v_inn_sleepers : Int32) (v_inn_bed : Nat → Int32) (v_from_68 : Nat → Int32) (K127 : (Int32) → Option (Int32 × (Nat → Int32))) (rec77 : (Int32 × Int32) → Option (Int32 × (Nat → Int32))) : (Int32 × Int32) → Option (Int32 × (Nat → Int32)) := un2 fun (x77_5 : Int32) (x77_6 : Int32) => if v_inn_sleepers ≤ x77_6 then (K127 x77_5) else (jn (un1 fun (x119_s0 : Int32) => rec77 (x119_s0, x77_6 + 1)) (fun j119 => jn (un0 (j119 0)) (fun j118 => if x77_5 = 0 then (j118 ()) else (gd x77_6 3 (gd (v_inn_bed x77_6.toNatClampNeg) 8 (if (v_from_68 (v_inn_bed x77_6.toNatClampNeg).toNatClampNeg) = 99 then (j119 1) else (j118 ())))))))
def BX12_safest_21 (v_inn_doors : Int32) (r_12 : Int32) (N : Nat) (p0 : Int32) (v_inn_rooms : Int32) (v_inn_doorA : Nat → Int32) (v_inn_doorB : Nat → Int32) (v_inn_sleepers : Int32) (v_inn_bed : Nat → Int32) (rec21 : (Int32 × Int32 × (Nat → Int32)) → Option (Int32 × (Nat → Int32))) : (Int32 × Int32 × (Nat → Int32)) → Option (Int32 × (Nat → Int32)) := un3 fun (x21_3 : Int32) (x21_4 : Int32) (x21_from : Nat → Int32) => if (1 <<< (v_inn_doors &&& 31)) ≤ x21_4 then (some (x21_3, x21_from)) else (jn (un2 fun (x135_3 : Int32) (x135_from : Nat → Int32) => rec21 (x135_3, x21_4 + 1, x135_from)) (fun j135 => if (x21_4 &&& r_12) = 0 then (jn (un0 ((fX12_measures N p0 (x21_4 ||| r_12) v_inn_rooms v_inn_doors v_inn_doorA x21_from v_inn_doorB).bind (un1 fun (v_from_68 : Nat → Int32) => lp (BX12_safest_77 v_inn_sleepers v_inn_bed v_from_68 (un1 fun (x127_5 : Int32) => if x127_5 = 0 then (j135 (x21_3, v_from_68)) else (j135 (x21_4, v_from_68)))) N (1, 0)))) (fun j62 => if x21_3 = (-1) then (j62 ()) else ((fX12_bits N x21_4).bind (un1 fun (r_49 : Int32) => (fX12_bits N x21_3).bind (un1 fun (r_53 : Int32) => if r_49 < r_53 then (j62 ()) else (j135 (x21_3, x21_from))))))) else (j135 (x21_3, x21_from))))
def fX12_safest (N : Nat) (p0 : Int32) (v_inn_rooms : Int32) (v_inn_doors : Int32) (v_inn_sleepers : Int32) (v_inn_bed : Nat → Int32) (v_inn_how : Nat → Int32) (v_inn_doorA : Nat → Int32) (v_from : Nat → Int32) (v_inn_doorB : Nat → Int32) : Option (Int32 × (Nat → Int32)) := (fX12_isBed N p0 v_inn_sleepers v_inn_bed).bind (un1 fun (r_2 : Int32) => if r_2 = 0 then ((fX12_toldLocked N v_inn_doors v_inn_how).bind (un1 fun (r_12 : Int32) => lp (BX12_safest_21 v_inn_doors r_12 N p0 v_inn_rooms v_inn_doorA v_inn_doorB v_inn_sleepers v_inn_bed) N ((-1), 0, v_from))) else (some ((-2), v_from)))
set_option maxHeartbeats 4000000 in
set_option maxRecDepth 100000 in
theorem ctX12_safest (l : Launch) (E : EN) (h h_inn h_tape h_far h_from h_real h_other h_kept h_set h_w h_book h_noteSort h_whose h_what h_noteIs h_fitting h_dawn h_likes h_walked h_came h_inn_creak h_inn_doorA h_inn_doorB h_inn_how h_inn_lies h_inn_isCold h_inn_falls h_inn_isFull h_inn_isTold h_inn_act h_inn_what h_inn_then h_inn_met h_inn_bed h_inn_dream h_inn_listens h_inn_name h_inn_nameSort h_inn_nameNumber : Nat) (v_thrown : Int32) (v_trouble : Int32) (v_where : Int32) (v_read : Option Nat) (v_taped : Int32) (v_size : Int32) (v_at : Int32) (v_sort : Int32) (v_place : Int32) (v_sign : Int32) (v_number : Int32) (v_fault : Int32) (v_wrongAt : Int32) (v_word : Int64) (v_marks : Int32) (v_notes : Int32) (v_inn_minutes : Int32) (v_inn_rooms : Int32) (v_inn_doors : Int32) (v_inn_things : Int32) (v_inn_dreams : Int32) (v_inn_sleepers : Int32) (v_inn_listeners : Int32) (v_inn_names : Int32) (v_inn_bed : Nat → Int32) (v_inn_how : Nat → Int32) (v_inn_doorA : Nat → Int32) (v_from : Nat → Int32) (v_inn_doorB : Nat → Int32) (N : Nat) (p0 : Int32) (z : Int32 × (Nat → Int32)) (hf : fX12_safest N p0 v_inn_rooms v_inn_doors v_inn_sleepers v_inn_bed v_inn_how v_inn_doorA v_from v_inn_doorB = some z) : CTi l E yX12_safest cX12_safest 7 .int 2 45 [.ref h, .int p0] (wX12_safest E h h_inn h_tape h_far h_from h_real h_other h_kept h_set h_w h_book h_noteSort h_whose h_what h_noteIs h_fitting h_dawn h_likes h_walked h_came h_inn_creak h_inn_doorA h_inn_doorB h_inn_how h_inn_lies h_inn_isCold h_inn_falls h_inn_isFull h_inn_isTold h_inn_act h_inn_what h_inn_then h_inn_met h_inn_bed h_inn_dream h_inn_listens h_inn_name h_inn_nameSort h_inn_nameNumber v_thrown v_trouble v_where v_read v_taped v_size v_at v_sort v_place v_sign v_number v_fault v_wrongAt v_word v_marks v_notes v_inn_minutes v_inn_rooms v_inn_doors v_inn_things v_inn_dreams v_inn_sleepers v_inn_listeners v_inn_names v_inn_bed v_inn_how v_inn_doorA v_from v_inn_doorB) (z.1) (wX12_safest E h h_inn h_tape h_far h_from h_real h_other h_kept h_set h_w h_book h_noteSort h_whose h_what h_noteIs h_fitting h_dawn h_likes h_walked h_came h_inn_creak h_inn_doorA h_inn_doorB h_inn_how h_inn_lies h_inn_isCold h_inn_falls h_inn_isFull h_inn_isTold h_inn_act h_inn_what h_inn_then h_inn_met h_inn_bed h_inn_dream h_inn_listens h_inn_name h_inn_nameSort h_inn_nameNumber v_thrown v_trouble v_where v_read v_taped v_size v_at v_sort v_place v_sign v_number v_fault v_wrongAt v_word v_marks v_notes v_inn_minutes v_inn_rooms v_inn_doors v_inn_things v_inn_dreams v_inn_sleepers v_inn_listeners v_inn_names v_inn_bed v_inn_how v_inn_doorA z.2 v_inn_doorB) := by
  intro sz
  refine ct_body (by decide) (Nat.le_of_ble_eq_true rfl) ?_
  intro p e s m args below meth c A ls hAe C hr hin hP hD hS hl
  have C : CX p s m args meth c cX12_safest RX12 7 E A := C
  have hl : lv_has ls 7 [(0, .ref h), (1, .int p0)] := hl
  have hx := C.1
  have hb := C.2.1
  rw [hAe]
  clear hAe
  obtain ⟨Q, hQ⟩ : ∃ Q, Q = MQ below (Qi E A (z.1) (wX12_safest E h h_inn h_tape h_far h_from h_real h_other h_kept h_set h_w h_book h_noteSort h_whose h_what h_noteIs h_fitting h_dawn h_likes h_walked h_came h_inn_creak h_inn_doorA h_inn_doorB h_inn_how h_inn_lies h_inn_isCold h_inn_falls h_inn_isFull h_inn_isTold h_inn_act h_inn_what h_inn_then h_inn_met h_inn_bed h_inn_dream h_inn_listens h_inn_name h_inn_nameSort h_inn_nameNumber v_thrown v_trouble v_where v_read v_taped v_size v_at v_sort v_place v_sign v_number v_fault v_wrongAt v_word v_marks v_notes v_inn_minutes v_inn_rooms v_inn_doors v_inn_things v_inn_dreams v_inn_sleepers v_inn_listeners v_inn_names v_inn_bed v_inn_how v_inn_doorA z.2 v_inn_doorB)) args s 0 0 A := ⟨_, rfl⟩
  rw [← hQ]
  unfold fX12_safest at hf
  refine lv_aload_n (pc := 0) hx hb dX12_safest_0 rfl (lv_at hl 0 rfl) ?_
  refine lv_iload_n (pc := 1) hx hb dX12_safest_1 rfl (lv_at hl 1 rfl) ?_
  obtain ⟨r_2, hc_2, hf⟩ := bd1 hf
  refine r_dalVi (pc := 2) (ws' := (wX12_safest E h h_inn h_tape h_far h_from h_real h_other h_kept h_set h_w h_book h_noteSort h_whose h_what h_noteIs h_fitting h_dawn h_likes h_walked h_came h_inn_creak h_inn_doorA h_inn_doorB h_inn_how h_inn_lies h_inn_isCold h_inn_falls h_inn_isFull h_inn_isTold h_inn_act h_inn_what h_inn_then h_inn_met h_inn_bed h_inn_dream h_inn_listens h_inn_name h_inn_nameSort h_inn_nameNumber v_thrown v_trouble v_where v_read v_taped v_size v_at v_sort v_place v_sign v_number v_fault v_wrongAt v_word v_marks v_notes v_inn_minutes v_inn_rooms v_inn_doors v_inn_things v_inn_dreams v_inn_sleepers v_inn_listeners v_inn_names v_inn_bed v_inn_how v_inn_doorA v_from v_inn_doorB)) (As := [.int p0]) (rest := []) C (ctX12_isBed l E h h_inn h_tape h_far h_from h_real h_other h_kept h_set h_w h_book h_noteSort h_whose h_what h_noteIs h_fitting h_dawn h_likes h_walked h_came h_inn_creak h_inn_doorA h_inn_doorB h_inn_how h_inn_lies h_inn_isCold h_inn_falls h_inn_isFull h_inn_isTold h_inn_act h_inn_what h_inn_then h_inn_met h_inn_bed h_inn_dream h_inn_listens h_inn_name h_inn_nameSort h_inn_nameNumber v_thrown v_trouble v_where v_read v_taped v_size v_at v_sort v_place v_sign v_number v_fault v_wrongAt v_word v_marks v_notes v_inn_minutes v_inn_rooms v_inn_doors v_inn_things v_inn_dreams v_inn_sleepers v_inn_listeners v_inn_names v_inn_bed N p0 r_2 hc_2) ml_X12_486 ⟨Nat.le_of_ble_eq_true rfl, Nat.le_of_ble_eq_true rfl⟩ hP hD hS 0 rfl rfl rfl [0, 1, 2] [7, 8, 9, 3, 4, 5, 6] 7 rfl rfl rfl rfl rfl rfl rfl hl.1 rfl (Nat.le_of_ble_eq_true rfl) ⟨Nat.zero_le _, Nat.zero_le _⟩ dX12_safest_2 ?_
  clear hP hD hS; intro H locs hP hD hS
  refine lv_if_eq (pc := 5) (tgt := 11) hx hb dX12_safest_5 (by decide) (fun c_5 => ?_) (fun c_5 => ?_)
  · replace hf := it_t c_5 hf
    refine lv_aload_n (pc := 11) hx hb dX12_safest_11 rfl (lv_at hl 0 rfl) ?_
    obtain ⟨r_12, hc_12, hf⟩ := bd1 hf
    refine r_dalVi (pc := 12) (ws' := (wX12_safest E h h_inn h_tape h_far h_from h_real h_other h_kept h_set h_w h_book h_noteSort h_whose h_what h_noteIs h_fitting h_dawn h_likes h_walked h_came h_inn_creak h_inn_doorA h_inn_doorB h_inn_how h_inn_lies h_inn_isCold h_inn_falls h_inn_isFull h_inn_isTold h_inn_act h_inn_what h_inn_then h_inn_met h_inn_bed h_inn_dream h_inn_listens h_inn_name h_inn_nameSort h_inn_nameNumber v_thrown v_trouble v_where v_read v_taped v_size v_at v_sort v_place v_sign v_number v_fault v_wrongAt v_word v_marks v_notes v_inn_minutes v_inn_rooms v_inn_doors v_inn_things v_inn_dreams v_inn_sleepers v_inn_listeners v_inn_names v_inn_bed v_inn_how v_inn_doorA v_from v_inn_doorB)) (As := []) (rest := []) C (ctX12_toldLocked l E h h_inn h_tape h_far h_from h_real h_other h_kept h_set h_w h_book h_noteSort h_whose h_what h_noteIs h_fitting h_dawn h_likes h_walked h_came h_inn_creak h_inn_doorA h_inn_doorB h_inn_how h_inn_lies h_inn_isCold h_inn_falls h_inn_isFull h_inn_isTold h_inn_act h_inn_what h_inn_then h_inn_met h_inn_bed h_inn_dream h_inn_listens h_inn_name h_inn_nameSort h_inn_nameNumber v_thrown v_trouble v_where v_read v_taped v_size v_at v_sort v_place v_sign v_number v_fault v_wrongAt v_word v_marks v_notes v_inn_minutes v_inn_rooms v_inn_doors v_inn_things v_inn_dreams v_inn_sleepers v_inn_listeners v_inn_names v_inn_how N r_12 hc_12) ml_X12_489 ⟨Nat.le_of_ble_eq_true rfl, Nat.le_of_ble_eq_true rfl⟩ hP hD hS 0 rfl rfl rfl [0, 1, 3] [7, 8, 2, 9, 4, 5, 6] 7 rfl rfl rfl rfl rfl rfl rfl hl.1 rfl (Nat.le_of_ble_eq_true rfl) ⟨Nat.zero_le _, Nat.zero_le _⟩ dX12_safest_12 ?_
    clear hP hD hS; intro H locs hP hD hS
    refine lv_istore_n (pc := 15) (lv' := [(2, .int r_12), (0, .ref h), (1, .int p0)]) hx hb dX12_safest_15 rfl hl (by decide) rfl (fun ls hl => ?_)
    refine lv_iconst (pc := 16) (v := (-1)) hx hb dX12_safest_16 (by decide) ?_
    refine lv_istore_n (pc := 17) (lv' := [(3, .int (-1)), (2, .int r_12), (0, .ref h), (1, .int p0)]) hx hb dX12_safest_17 rfl hl (by decide) rfl (fun ls hl => ?_)
    refine lv_iconst (pc := 18) (v := 0) hx hb dX12_safest_18 (by decide) ?_
    refine lv_istore (pc := 19) (lv' := [(4, .int 0), (3, .int (-1)), (2, .int r_12), (0, .ref h), (1, .int p0)]) hx hb dX12_safest_19 hl (by decide) rfl (fun ls hl => ?_)
    have key21 : ∀ (n : Nat) (x21_3 : Int32) (x21_4 : Int32) (x21_from : Nat → Int32) , lp (BX12_safest_21 v_inn_doors r_12 N p0 v_inn_rooms v_inn_doorA v_inn_doorB v_inn_sleepers v_inn_bed) n (x21_3, x21_4, x21_from) = some z → AT p l e (rmOf 2 45) s m args below meth c E A Q 0 0 7 [(0, .ref h), (1, .int p0), (2, .int r_12), (3, .int x21_3), (4, .int x21_4)] (wX12_safest E h h_inn h_tape h_far h_from h_real h_other h_kept h_set h_w h_book h_noteSort h_whose h_what h_noteIs h_fitting h_dawn h_likes h_walked h_came h_inn_creak h_inn_doorA h_inn_doorB h_inn_how h_inn_lies h_inn_isCold h_inn_falls h_inn_isFull h_inn_isTold h_inn_act h_inn_what h_inn_then h_inn_met h_inn_bed h_inn_dream h_inn_listens h_inn_name h_inn_nameSort h_inn_nameNumber v_thrown v_trouble v_where v_read v_taped v_size v_at v_sort v_place v_sign v_number v_fault v_wrongAt v_word v_marks v_notes v_inn_minutes v_inn_rooms v_inn_doors v_inn_things v_inn_dreams v_inn_sleepers v_inn_listeners v_inn_names v_inn_bed v_inn_how v_inn_doorA x21_from v_inn_doorB) 21 [] := by
      intro n
      induction n with
      | zero => intro x21_3 x21_4 x21_from hf; exact (lp_0 hf).elim
      | succ n ih21 =>
        intro x21_3 x21_4 x21_from hf H locs ls hl hP hD hS
        replace hf := lp_s hf
        generalize lp (BX12_safest_21 v_inn_doors r_12 N p0 v_inn_rooms v_inn_doorA v_inn_doorB v_inn_sleepers v_inn_bed) n = rec21 at ih21 hf
        unfold BX12_safest_21 at hf
        replace hf := un3_s hf
        refine lv_iload (pc := 21) hx hb dX12_safest_21 (lv_at hl 4 rfl) ?_
        refine lv_iconst (pc := 23) (v := 1) hx hb dX12_safest_23 (by decide) ?_
        refine lv_aload_n (pc := 24) hx hb dX12_safest_24 rfl (lv_at hl 0 rfl) ?_
        refine r_get (pc := 25) C hP 0 rfl fl_X12_358 rfl dX12_safest_25 ?_
        refine r_get (pc := 28) C hP 1 rfl fl_X12_292 rfl dX12_safest_28 ?_
        refine lv_ishl (pc := 31) hx hb dX12_safest_31 ?_
        refine lv_icmp_ge (pc := 32) (tgt := 141) hx hb dX12_safest_32 (by decide) (fun c_32 => ?_) (fun c_32 => ?_)
        · replace hf := it_t c_32 hf
          refine lv_iload_n (pc := 141) hx hb dX12_safest_141 rfl (lv_at hl 3 rfl) ?_
          cases hf
          rw [hQ]
          exact r_iret C hr hP hD hS rfl dX12_safest_142
        · replace hf := it_f c_32 hf
          refine lv_iload (pc := 35) hx hb dX12_safest_35 (lv_at hl 4 rfl) ?_
          refine lv_iload_n (pc := 37) hx hb dX12_safest_37 rfl (lv_at hl 2 rfl) ?_
          refine lv_iand (pc := 38) hx hb dX12_safest_38 ?_
          refine jnK hf (fun j135 ej135 hf => ?_)
          have hj135 : ∀ (x135_3 : Int32) (x135_from : Nat → Int32) , j135 (x135_3, x135_from) = some z → AT p l e (rmOf 2 45) s m args below meth c E A Q 0 0 7 [(0, .ref h), (1, .int p0), (2, .int r_12), (3, .int x135_3), (4, .int x21_4)] (wX12_safest E h h_inn h_tape h_far h_from h_real h_other h_kept h_set h_w h_book h_noteSort h_whose h_what h_noteIs h_fitting h_dawn h_likes h_walked h_came h_inn_creak h_inn_doorA h_inn_doorB h_inn_how h_inn_lies h_inn_isCold h_inn_falls h_inn_isFull h_inn_isTold h_inn_act h_inn_what h_inn_then h_inn_met h_inn_bed h_inn_dream h_inn_listens h_inn_name h_inn_nameSort h_inn_nameNumber v_thrown v_trouble v_where v_read v_taped v_size v_at v_sort v_place v_sign v_number v_fault v_wrongAt v_word v_marks v_notes v_inn_minutes v_inn_rooms v_inn_doors v_inn_things v_inn_dreams v_inn_sleepers v_inn_listeners v_inn_names v_inn_bed v_inn_how v_inn_doorA x135_from v_inn_doorB) 135 [] := by
            intro x135_3 x135_from hf H locs ls hl hP hD hS
            rw [ej135] at hf
            replace hf := un2_s hf
            refine lv_iinc (pc := 135) (v := x21_4 + 1) (lv' := [(4, .int (x21_4 + 1)), (0, .ref h), (1, .int p0), (2, .int r_12), (3, .int x135_3)]) hx hb dX12_safest_135 hl (k := 4) rfl rfl (by decide) rfl (fun ls hl => ?_)
            refine lv_goto (pc := 138) (tgt := 21) hx hb dX12_safest_138 (by decide) ?_
            exact ih21 x135_3 (x21_4 + 1) x135_from hf _ _ _ (lv_sub hl [1, 2, 3, 4, 0] rfl) hP hD hS
          clear ej135
          refine lv_if_ne (pc := 39) (tgt := 135) hx hb dX12_safest_39 (by decide) (fun c_39 => ?_) (fun c_39 => ?_)
          · replace hf := it_f c_39 hf
            exact hj135 x21_3 x21_from hf _ _ _ (lv_sub hl [0, 1, 2, 3, 4] rfl) hP hD hS
          · replace hf := it_t c_39 hf
            refine lv_iload_n (pc := 42) hx hb dX12_safest_42 rfl (lv_at hl 3 rfl) ?_
            refine lv_iconst (pc := 43) (v := (-1)) hx hb dX12_safest_43 (by decide) ?_
            refine jnK hf (fun j62 ej62 hf => ?_)
            have hj62 : j62 () = some z → AT p l e (rmOf 2 45) s m args below meth c E A Q 0 0 7 [(0, .ref h), (1, .int p0), (2, .int r_12), (3, .int x21_3), (4, .int x21_4)] (wX12_safest E h h_inn h_tape h_far h_from h_real h_other h_kept h_set h_w h_book h_noteSort h_whose h_what h_noteIs h_fitting h_dawn h_likes h_walked h_came h_inn_creak h_inn_doorA h_inn_doorB h_inn_how h_inn_lies h_inn_isCold h_inn_falls h_inn_isFull h_inn_isTold h_inn_act h_inn_what h_inn_then h_inn_met h_inn_bed h_inn_dream h_inn_listens h_inn_name h_inn_nameSort h_inn_nameNumber v_thrown v_trouble v_where v_read v_taped v_size v_at v_sort v_place v_sign v_number v_fault v_wrongAt v_word v_marks v_notes v_inn_minutes v_inn_rooms v_inn_doors v_inn_things v_inn_dreams v_inn_sleepers v_inn_listeners v_inn_names v_inn_bed v_inn_how v_inn_doorA x21_from v_inn_doorB) 62 [] := by
              intro  hf H locs ls hl hP hD hS
              rw [ej62] at hf
              replace hf := un0_s hf
              refine lv_aload_n (pc := 62) hx hb dX12_safest_62 rfl (lv_at hl 0 rfl) ?_
              refine lv_iload_n (pc := 63) hx hb dX12_safest_63 rfl (lv_at hl 1 rfl) ?_
              refine lv_iload (pc := 64) hx hb dX12_safest_64 (lv_at hl 4 rfl) ?_
              refine lv_iload_n (pc := 66) hx hb dX12_safest_66 rfl (lv_at hl 2 rfl) ?_
              refine lv_ior (pc := 67) hx hb dX12_safest_67 ?_
              obtain ⟨v_from_68, hc_68, hf⟩ := bd1 hf
              refine r_dalVv (pc := 68) (ws' := (wX12_safest E h h_inn h_tape h_far h_from h_real h_other h_kept h_set h_w h_book h_noteSort h_whose h_what h_noteIs h_fitting h_dawn h_likes h_walked h_came h_inn_creak h_inn_doorA h_inn_doorB h_inn_how h_inn_lies h_inn_isCold h_inn_falls h_inn_isFull h_inn_isTold h_inn_act h_inn_what h_inn_then h_inn_met h_inn_bed h_inn_dream h_inn_listens h_inn_name h_inn_nameSort h_inn_nameNumber v_thrown v_trouble v_where v_read v_taped v_size v_at v_sort v_place v_sign v_number v_fault v_wrongAt v_word v_marks v_notes v_inn_minutes v_inn_rooms v_inn_doors v_inn_things v_inn_dreams v_inn_sleepers v_inn_listeners v_inn_names v_inn_bed v_inn_how v_inn_doorA v_from_68 v_inn_doorB)) (As := [.int p0, .int (x21_4 ||| r_12)]) (rest := []) C (ctX12_measures l E h h_inn h_tape h_far h_from h_real h_other h_kept h_set h_w h_book h_noteSort h_whose h_what h_noteIs h_fitting h_dawn h_likes h_walked h_came h_inn_creak h_inn_doorA h_inn_doorB h_inn_how h_inn_lies h_inn_isCold h_inn_falls h_inn_isFull h_inn_isTold h_inn_act h_inn_what h_inn_then h_inn_met h_inn_bed h_inn_dream h_inn_listens h_inn_name h_inn_nameSort h_inn_nameNumber v_thrown v_trouble v_where v_read v_taped v_size v_at v_sort v_place v_sign v_number v_fault v_wrongAt v_word v_marks v_notes v_inn_minutes v_inn_rooms v_inn_doors v_inn_things v_inn_dreams v_inn_sleepers v_inn_listeners v_inn_names v_inn_doorA x21_from v_inn_doorB N p0 (x21_4 ||| r_12) v_from_68 hc_68) ml_X12_376 ⟨Nat.le_of_ble_eq_true rfl, Nat.le_of_ble_eq_true rfl⟩ hP hD hS 0 rfl rfl rfl [0, 1, 4, 5, 6] [7, 8, 2, 3, 9, 10, 11] 7 rfl rfl rfl rfl rfl rfl rfl hl.1 rfl (Nat.le_of_ble_eq_true rfl) ⟨Nat.zero_le _, Nat.zero_le _⟩ dX12_safest_68 ?_
              clear hP hD hS; intro H locs hP hD hS
              refine lv_iconst (pc := 71) (v := 1) hx hb dX12_safest_71 (by decide) ?_
              refine lv_istore (pc := 72) (lv' := [(5, .int 1), (0, .ref h), (1, .int p0), (2, .int r_12), (3, .int x21_3), (4, .int x21_4)]) hx hb dX12_safest_72 hl (by decide) rfl (fun ls hl => ?_)
              refine lv_iconst (pc := 74) (v := 0) hx hb dX12_safest_74 (by decide) ?_
              refine lv_istore (pc := 75) (lv' := [(6, .int 0), (5, .int 1), (0, .ref h), (1, .int p0), (2, .int r_12), (3, .int x21_3), (4, .int x21_4)]) hx hb dX12_safest_75 hl (by decide) rfl (fun ls hl => ?_)
              refine lpK hf (fun K127 eK127 hf => ?_)
              have hK127 : ∀ (x127_5 : Int32) , K127 x127_5 = some z → AT p l e (rmOf 2 45) s m args below meth c E A Q 0 0 7 [(0, .ref h), (1, .int p0), (2, .int r_12), (3, .int x21_3), (4, .int x21_4), (5, .int x127_5)] (wX12_safest E h h_inn h_tape h_far h_from h_real h_other h_kept h_set h_w h_book h_noteSort h_whose h_what h_noteIs h_fitting h_dawn h_likes h_walked h_came h_inn_creak h_inn_doorA h_inn_doorB h_inn_how h_inn_lies h_inn_isCold h_inn_falls h_inn_isFull h_inn_isTold h_inn_act h_inn_what h_inn_then h_inn_met h_inn_bed h_inn_dream h_inn_listens h_inn_name h_inn_nameSort h_inn_nameNumber v_thrown v_trouble v_where v_read v_taped v_size v_at v_sort v_place v_sign v_number v_fault v_wrongAt v_word v_marks v_notes v_inn_minutes v_inn_rooms v_inn_doors v_inn_things v_inn_dreams v_inn_sleepers v_inn_listeners v_inn_names v_inn_bed v_inn_how v_inn_doorA v_from_68 v_inn_doorB) 127 [] := by
                intro x127_5 hf H locs ls hl hP hD hS
                rw [eK127] at hf
                replace hf := un1_s hf
                refine lv_iload (pc := 127) hx hb dX12_safest_127 (lv_at hl 5 rfl) ?_
                refine lv_if_eq (pc := 129) (tgt := 135) hx hb dX12_safest_129 (by decide) (fun c_129 => ?_) (fun c_129 => ?_)
                · replace hf := it_t c_129 hf
                  exact hj135 x21_3 v_from_68 hf _ _ _ (lv_sub hl [0, 1, 2, 3, 4] rfl) hP hD hS
                · replace hf := it_f c_129 hf
                  refine lv_iload (pc := 132) hx hb dX12_safest_132 (lv_at hl 4 rfl) ?_
                  refine lv_istore_n (pc := 134) (lv' := [(3, .int x21_4), (0, .ref h), (1, .int p0), (2, .int r_12), (4, .int x21_4), (5, .int x127_5)]) hx hb dX12_safest_134 rfl hl (by decide) rfl (fun ls hl => ?_)
                  exact hj135 x21_4 v_from_68 hf _ _ _ (lv_sub hl [1, 2, 3, 0, 4] rfl) hP hD hS
              clear eK127
              have key77 : ∀ (n : Nat) (x77_5 : Int32) (x77_6 : Int32) , lp (BX12_safest_77 v_inn_sleepers v_inn_bed v_from_68 K127) n (x77_5, x77_6) = some z → AT p l e (rmOf 2 45) s m args below meth c E A Q 0 0 7 [(0, .ref h), (1, .int p0), (2, .int r_12), (3, .int x21_3), (4, .int x21_4), (5, .int x77_5), (6, .int x77_6)] (wX12_safest E h h_inn h_tape h_far h_from h_real h_other h_kept h_set h_w h_book h_noteSort h_whose h_what h_noteIs h_fitting h_dawn h_likes h_walked h_came h_inn_creak h_inn_doorA h_inn_doorB h_inn_how h_inn_lies h_inn_isCold h_inn_falls h_inn_isFull h_inn_isTold h_inn_act h_inn_what h_inn_then h_inn_met h_inn_bed h_inn_dream h_inn_listens h_inn_name h_inn_nameSort h_inn_nameNumber v_thrown v_trouble v_where v_read v_taped v_size v_at v_sort v_place v_sign v_number v_fault v_wrongAt v_word v_marks v_notes v_inn_minutes v_inn_rooms v_inn_doors v_inn_things v_inn_dreams v_inn_sleepers v_inn_listeners v_inn_names v_inn_bed v_inn_how v_inn_doorA v_from_68 v_inn_doorB) 77 [] := by
                intro n
                induction n with
                | zero => intro x77_5 x77_6 hf; exact (lp_0 hf).elim
                | succ n ih77 =>
                  intro x77_5 x77_6 hf H locs ls hl hP hD hS
                  replace hf := lp_s hf
                  generalize lp (BX12_safest_77 v_inn_sleepers v_inn_bed v_from_68 K127) n = rec77 at ih77 hf
                  unfold BX12_safest_77 at hf
                  replace hf := un2_s hf
                  refine lv_iload (pc := 77) hx hb dX12_safest_77 (lv_at hl 6 rfl) ?_
                  refine lv_aload_n (pc := 79) hx hb dX12_safest_79 rfl (lv_at hl 0 rfl) ?_
                  refine r_get (pc := 80) C hP 0 rfl fl_X12_358 rfl dX12_safest_80 ?_
                  refine r_get (pc := 83) C hP 1 rfl fl_X12_247 rfl dX12_safest_83 ?_
                  refine lv_icmp_ge (pc := 86) (tgt := 127) hx hb dX12_safest_86 (by decide) (fun c_86 => ?_) (fun c_86 => ?_)
                  · replace hf := it_t c_86 hf
                    exact hK127 x77_5 hf _ _ _ (lv_sub hl [0, 1, 2, 3, 4, 5] rfl) hP hD hS
                  · replace hf := it_f c_86 hf
                    refine lv_iload (pc := 89) hx hb dX12_safest_89 (lv_at hl 5 rfl) ?_
                    refine jnK hf (fun j119 ej119 hf => ?_)
                    have hj119 : ∀ (x119_s0 : Int32) , j119 x119_s0 = some z → AT p l e (rmOf 2 45) s m args below meth c E A Q 0 0 7 [(0, .ref h), (1, .int p0), (2, .int r_12), (3, .int x21_3), (4, .int x21_4), (6, .int x77_6)] (wX12_safest E h h_inn h_tape h_far h_from h_real h_other h_kept h_set h_w h_book h_noteSort h_whose h_what h_noteIs h_fitting h_dawn h_likes h_walked h_came h_inn_creak h_inn_doorA h_inn_doorB h_inn_how h_inn_lies h_inn_isCold h_inn_falls h_inn_isFull h_inn_isTold h_inn_act h_inn_what h_inn_then h_inn_met h_inn_bed h_inn_dream h_inn_listens h_inn_name h_inn_nameSort h_inn_nameNumber v_thrown v_trouble v_where v_read v_taped v_size v_at v_sort v_place v_sign v_number v_fault v_wrongAt v_word v_marks v_notes v_inn_minutes v_inn_rooms v_inn_doors v_inn_things v_inn_dreams v_inn_sleepers v_inn_listeners v_inn_names v_inn_bed v_inn_how v_inn_doorA v_from_68 v_inn_doorB) 119 [.int x119_s0] := by
                      intro x119_s0 hf H locs ls hl hP hD hS
                      rw [ej119] at hf
                      replace hf := un1_s hf
                      refine lv_istore (pc := 119) (lv' := [(5, .int x119_s0), (0, .ref h), (1, .int p0), (2, .int r_12), (3, .int x21_3), (4, .int x21_4), (6, .int x77_6)]) hx hb dX12_safest_119 hl (by decide) rfl (fun ls hl => ?_)
                      refine lv_iinc (pc := 121) (v := x77_6 + 1) (lv' := [(6, .int (x77_6 + 1)), (5, .int x119_s0), (0, .ref h), (1, .int p0), (2, .int r_12), (3, .int x21_3), (4, .int x21_4)]) hx hb dX12_safest_121 hl (k := 6) rfl rfl (by decide) rfl (fun ls hl => ?_)
                      refine lv_goto (pc := 124) (tgt := 77) hx hb dX12_safest_124 (by decide) ?_
                      exact ih77 x119_s0 (x77_6 + 1) hf _ _ _ (lv_sub hl [2, 3, 4, 5, 6, 1, 0] rfl) hP hD hS
                    clear ej119
                    refine jnK hf (fun j118 ej118 hf => ?_)
                    have hj118 : j118 () = some z → AT p l e (rmOf 2 45) s m args below meth c E A Q 0 0 7 [(0, .ref h), (1, .int p0), (2, .int r_12), (3, .int x21_3), (4, .int x21_4), (6, .int x77_6)] (wX12_safest E h h_inn h_tape h_far h_from h_real h_other h_kept h_set h_w h_book h_noteSort h_whose h_what h_noteIs h_fitting h_dawn h_likes h_walked h_came h_inn_creak h_inn_doorA h_inn_doorB h_inn_how h_inn_lies h_inn_isCold h_inn_falls h_inn_isFull h_inn_isTold h_inn_act h_inn_what h_inn_then h_inn_met h_inn_bed h_inn_dream h_inn_listens h_inn_name h_inn_nameSort h_inn_nameNumber v_thrown v_trouble v_where v_read v_taped v_size v_at v_sort v_place v_sign v_number v_fault v_wrongAt v_word v_marks v_notes v_inn_minutes v_inn_rooms v_inn_doors v_inn_things v_inn_dreams v_inn_sleepers v_inn_listeners v_inn_names v_inn_bed v_inn_how v_inn_doorA v_from_68 v_inn_doorB) 118 [] := by
                      intro  hf H locs ls hl hP hD hS
                      rw [ej118] at hf
                      replace hf := un0_s hf
                      refine lv_iconst (pc := 118) (v := 0) hx hb dX12_safest_118 (by decide) ?_
                      exact hj119 0 hf _ _ _ (lv_sub hl [0, 1, 2, 3, 4, 5] rfl) hP hD hS
                    clear ej118
                    refine lv_if_eq (pc := 91) (tgt := 118) hx hb dX12_safest_91 (by decide) (fun c_91 => ?_) (fun c_91 => ?_)
                    · replace hf := it_t c_91 hf
                      exact hj118  hf _ _ _ (lv_sub hl [0, 1, 2, 3, 4, 6] rfl) hP hD hS
                    · replace hf := it_f c_91 hf
                      refine lv_aload_n (pc := 94) hx hb dX12_safest_94 rfl (lv_at hl 0 rfl) ?_
                      refine r_get (pc := 95) C hP 0 rfl fl_X12_21 rfl dX12_safest_95 ?_
                      refine lv_aload_n (pc := 98) hx hb dX12_safest_98 rfl (lv_at hl 0 rfl) ?_
                      refine r_get (pc := 99) C hP 0 rfl fl_X12_358 rfl dX12_safest_99 ?_
                      refine r_get (pc := 102) C hP 1 rfl fl_X12_342 rfl dX12_safest_102 ?_
                      refine lv_iload (pc := 105) hx hb dX12_safest_105 (lv_at hl 6 rfl) ?_
                      obtain ⟨hi_107, hf⟩ := gd_s hf
                      refine r_iald (pc := 107) C hP 2 rfl hi_107 dX12_safest_107 ?_
                      obtain ⟨hi_108, hf⟩ := gd_s hf
                      refine r_iald (pc := 108) C hP 5 rfl hi_108 dX12_safest_108 ?_
                      refine lv_bipush (pc := 109) (v := 99) hx hb dX12_safest_109 (by decide) ?_
                      refine lv_icmp_ne (pc := 111) (tgt := 118) hx hb dX12_safest_111 (by decide) (fun c_111 => ?_) (fun c_111 => ?_)
                      · replace hf := it_f c_111 hf
                        exact hj118  hf _ _ _ (lv_sub hl [0, 1, 2, 3, 4, 6] rfl) hP hD hS
                      · replace hf := it_t c_111 hf
                        refine lv_iconst (pc := 114) (v := 1) hx hb dX12_safest_114 (by decide) ?_
                        refine lv_goto (pc := 115) (tgt := 119) hx hb dX12_safest_115 (by decide) ?_
                        exact hj119 1 hf _ _ _ (lv_sub hl [0, 1, 2, 3, 4, 6] rfl) hP hD hS
              exact key77 _ 1 0 hf _ _ _ (lv_sub hl [2, 3, 4, 5, 6, 1, 0] rfl) hP hD hS
            clear ej62
            refine lv_icmp_eq (pc := 44) (tgt := 62) hx hb dX12_safest_44 (by decide) (fun c_44 => ?_) (fun c_44 => ?_)
            · replace hf := it_t c_44 hf
              exact hj62  hf _ _ _ (lv_sub hl [0, 1, 2, 3, 4] rfl) hP hD hS
            · replace hf := it_f c_44 hf
              refine lv_iload (pc := 47) hx hb dX12_safest_47 (lv_at hl 4 rfl) ?_
              obtain ⟨r_49, hc_49, hf⟩ := bd1 hf
              refine r_dalSi (pc := 49) (Cn := "") (h := 0) (ws' := (wX12_safest E h h_inn h_tape h_far h_from h_real h_other h_kept h_set h_w h_book h_noteSort h_whose h_what h_noteIs h_fitting h_dawn h_likes h_walked h_came h_inn_creak h_inn_doorA h_inn_doorB h_inn_how h_inn_lies h_inn_isCold h_inn_falls h_inn_isFull h_inn_isTold h_inn_act h_inn_what h_inn_then h_inn_met h_inn_bed h_inn_dream h_inn_listens h_inn_name h_inn_nameSort h_inn_nameNumber v_thrown v_trouble v_where v_read v_taped v_size v_at v_sort v_place v_sign v_number v_fault v_wrongAt v_word v_marks v_notes v_inn_minutes v_inn_rooms v_inn_doors v_inn_things v_inn_dreams v_inn_sleepers v_inn_listeners v_inn_names v_inn_bed v_inn_how v_inn_doorA x21_from v_inn_doorB)) (As := [.int x21_4]) (rest := []) C (ctX12_bits l E N x21_4 r_49 hc_49) ml_X12_492 ⟨Nat.le_of_ble_eq_true rfl, Nat.le_of_ble_eq_true rfl⟩ hP hD hS [] [0, 1, 2, 3, 4, 5, 6] 7 rfl rfl rfl rfl rfl rfl rfl hl.1 rfl (Nat.le_of_ble_eq_true rfl) ⟨Nat.zero_le _, Nat.zero_le _⟩ dX12_safest_49 ?_
              clear hP hD hS; intro H locs hP hD hS
              refine lv_iload_n (pc := 52) hx hb dX12_safest_52 rfl (lv_at hl 3 rfl) ?_
              obtain ⟨r_53, hc_53, hf⟩ := bd1 hf
              refine r_dalSi (pc := 53) (Cn := "") (h := 0) (ws' := (wX12_safest E h h_inn h_tape h_far h_from h_real h_other h_kept h_set h_w h_book h_noteSort h_whose h_what h_noteIs h_fitting h_dawn h_likes h_walked h_came h_inn_creak h_inn_doorA h_inn_doorB h_inn_how h_inn_lies h_inn_isCold h_inn_falls h_inn_isFull h_inn_isTold h_inn_act h_inn_what h_inn_then h_inn_met h_inn_bed h_inn_dream h_inn_listens h_inn_name h_inn_nameSort h_inn_nameNumber v_thrown v_trouble v_where v_read v_taped v_size v_at v_sort v_place v_sign v_number v_fault v_wrongAt v_word v_marks v_notes v_inn_minutes v_inn_rooms v_inn_doors v_inn_things v_inn_dreams v_inn_sleepers v_inn_listeners v_inn_names v_inn_bed v_inn_how v_inn_doorA x21_from v_inn_doorB)) (As := [.int x21_3]) (rest := [.int r_49]) C (ctX12_bits l E N x21_3 r_53 hc_53) ml_X12_492 ⟨Nat.le_of_ble_eq_true rfl, Nat.le_of_ble_eq_true rfl⟩ hP hD hS [] [0, 1, 2, 3, 4, 5, 6] 7 rfl rfl rfl rfl rfl rfl rfl hl.1 rfl (Nat.le_of_ble_eq_true rfl) ⟨Nat.zero_le _, Nat.zero_le _⟩ dX12_safest_53 ?_
              clear hP hD hS; intro H locs hP hD hS
              refine lv_icmp_lt (pc := 56) (tgt := 62) hx hb dX12_safest_56 (by decide) (fun c_56 => ?_) (fun c_56 => ?_)
              · replace hf := it_t c_56 hf
                exact hj62  hf _ _ _ (lv_sub hl [0, 1, 2, 3, 4] rfl) hP hD hS
              · replace hf := it_f c_56 hf
                refine lv_goto (pc := 59) (tgt := 135) hx hb dX12_safest_59 (by decide) ?_
                exact hj135 x21_3 x21_from hf _ _ _ (lv_sub hl [0, 1, 2, 3, 4] rfl) hP hD hS
    exact key21 _ (-1) 0 v_from hf _ _ _ (lv_sub hl [3, 4, 2, 1, 0] rfl) hP hD hS
  · replace hf := it_f c_5 hf
    refine lv_bipush (pc := 8) (v := (-2)) hx hb dX12_safest_8 (by decide) ?_
    cases hf
    rw [hQ]
    exact r_iret C hr hP hD hS rfl dX12_safest_10
def wX12_safe (E : EN) (h h_inn h_tape h_far h_from h_real h_other h_kept h_set h_w h_book h_noteSort h_whose h_what h_noteIs h_fitting h_dawn h_likes h_walked h_came h_inn_creak h_inn_doorA h_inn_doorB h_inn_how h_inn_lies h_inn_isCold h_inn_falls h_inn_isFull h_inn_isTold h_inn_act h_inn_what h_inn_then h_inn_met h_inn_bed h_inn_dream h_inn_listens h_inn_name h_inn_nameSort h_inn_nameNumber : Nat) (v_thrown : Int32) (v_trouble : Int32) (v_where : Int32) (v_read : Option Nat) (v_taped : Int32) (v_size : Int32) (v_at : Int32) (v_sort : Int32) (v_place : Int32) (v_sign : Int32) (v_number : Int32) (v_fault : Int32) (v_wrongAt : Int32) (v_word : Int64) (v_marks : Int32) (v_notes : Int32) (v_inn_minutes : Int32) (v_inn_rooms : Int32) (v_inn_doors : Int32) (v_inn_things : Int32) (v_inn_dreams : Int32) (v_inn_sleepers : Int32) (v_inn_listeners : Int32) (v_inn_names : Int32) (v_inn_bed : Nat → Int32) (v_inn_how : Nat → Int32) (v_inn_doorA : Nat → Int32) (v_from : Nat → Int32) (v_inn_doorB : Nat → Int32) : va_W := [(h, .inr (11, [.int v_thrown, .int v_trouble, .int v_where, .ref h_inn, va_rf v_read, .ref h_tape, .int v_taped, .int v_size, .int v_at, .int v_sort, .int v_place, .int v_sign, .int v_number, .int v_fault, .int v_wrongAt, .long v_word, .ref h_far, .ref h_from, .ref h_real, .ref h_other, .ref h_kept, .ref h_set, .ref h_w, .int v_marks, .int v_notes, .ref h_book, .ref h_noteSort, .ref h_whose, .ref h_what, .ref h_noteIs, .ref h_fitting, .ref h_dawn, .ref h_likes, .ref h_walked, .ref h_came])), (h_inn, .inr (10, [.int v_inn_minutes, .int v_inn_rooms, .int v_inn_doors, .int v_inn_things, .int v_inn_dreams, .int v_inn_sleepers, .int v_inn_listeners, .int v_inn_names, .ref h_inn_creak, .ref h_inn_doorA, .ref h_inn_doorB, .ref h_inn_how, .ref h_inn_lies, .ref h_inn_isCold, .ref h_inn_falls, .ref h_inn_isFull, .ref h_inn_isTold, .ref h_inn_act, .ref h_inn_what, .ref h_inn_then, .ref h_inn_met, .ref h_inn_bed, .ref h_inn_dream, .ref h_inn_listens, .ref h_inn_name, .ref h_inn_nameSort, .ref h_inn_nameNumber])), (h_inn_bed, aI E 3 v_inn_bed), (h_inn_how, aI E 10 v_inn_how), (h_inn_doorA, aI E 10 v_inn_doorA), (h_from, aI E 8 v_from), (h_inn_doorB, aI E 10 v_inn_doorB)]
def fX12_safe (N : Nat) (p0 : Int32) (v_inn_rooms : Int32) (v_inn_doors : Int32) (v_inn_sleepers : Int32) (v_inn_bed : Nat → Int32) (v_inn_how : Nat → Int32) (v_inn_doorA : Nat → Int32) (v_from : Nat → Int32) (v_inn_doorB : Nat → Int32) : Option (Int32 × Int32 × Int32 × Int32 × (Nat → Int32)) := (fX12_isRoom N p0 v_inn_rooms).bind (un1 fun (r_7 : Int32) => if r_7 = 0 then ((fX12_refused N 1).bind (un3 fun (r_15 : Int32) (v_trouble_15 : Int32) (v_where_15 : Int32) => some (r_15, 0, v_trouble_15, v_where_15, v_from))) else ((fX12_safest N p0 v_inn_rooms v_inn_doors v_inn_sleepers v_inn_bed v_inn_how v_inn_doorA v_from v_inn_doorB).bind (un2 fun (r_21 : Int32) (v_from_21 : Nat → Int32) => if r_21 = (-2) then ((fX12_good N (-2)).bind (un3 fun (r_41 : Int32) (v_trouble_41 : Int32) (v_where_41 : Int32) => some (r_41, 0, v_trouble_41, v_where_41, v_from_21))) else ((fX12_bits N r_21).bind (un1 fun (r_38 : Int32) => (fX12_good N r_38).bind (un3 fun (r_41 : Int32) (v_trouble_41 : Int32) (v_where_41 : Int32) => some (r_41, 0, v_trouble_41, v_where_41, v_from_21)))))))
set_option maxHeartbeats 4000000 in
set_option maxRecDepth 100000 in
theorem ctX12_safe (l : Launch) (E : EN) (h h_inn h_tape h_far h_from h_real h_other h_kept h_set h_w h_book h_noteSort h_whose h_what h_noteIs h_fitting h_dawn h_likes h_walked h_came h_inn_creak h_inn_doorA h_inn_doorB h_inn_how h_inn_lies h_inn_isCold h_inn_falls h_inn_isFull h_inn_isTold h_inn_act h_inn_what h_inn_then h_inn_met h_inn_bed h_inn_dream h_inn_listens h_inn_name h_inn_nameSort h_inn_nameNumber : Nat) (v_thrown : Int32) (v_trouble : Int32) (v_where : Int32) (v_read : Option Nat) (v_taped : Int32) (v_size : Int32) (v_at : Int32) (v_sort : Int32) (v_place : Int32) (v_sign : Int32) (v_number : Int32) (v_fault : Int32) (v_wrongAt : Int32) (v_word : Int64) (v_marks : Int32) (v_notes : Int32) (v_inn_minutes : Int32) (v_inn_rooms : Int32) (v_inn_doors : Int32) (v_inn_things : Int32) (v_inn_dreams : Int32) (v_inn_sleepers : Int32) (v_inn_listeners : Int32) (v_inn_names : Int32) (v_inn_bed : Nat → Int32) (v_inn_how : Nat → Int32) (v_inn_doorA : Nat → Int32) (v_from : Nat → Int32) (v_inn_doorB : Nat → Int32) (N : Nat) (p0 : Int32) (z : Int32 × Int32 × Int32 × Int32 × (Nat → Int32)) (hf : fX12_safe N p0 v_inn_rooms v_inn_doors v_inn_sleepers v_inn_bed v_inn_how v_inn_doorA v_from v_inn_doorB = some z) : CTi l E yX12_safe cX12_safe 3 .int 3 71 [.ref h, .int p0] (wX12_safe E h h_inn h_tape h_far h_from h_real h_other h_kept h_set h_w h_book h_noteSort h_whose h_what h_noteIs h_fitting h_dawn h_likes h_walked h_came h_inn_creak h_inn_doorA h_inn_doorB h_inn_how h_inn_lies h_inn_isCold h_inn_falls h_inn_isFull h_inn_isTold h_inn_act h_inn_what h_inn_then h_inn_met h_inn_bed h_inn_dream h_inn_listens h_inn_name h_inn_nameSort h_inn_nameNumber v_thrown v_trouble v_where v_read v_taped v_size v_at v_sort v_place v_sign v_number v_fault v_wrongAt v_word v_marks v_notes v_inn_minutes v_inn_rooms v_inn_doors v_inn_things v_inn_dreams v_inn_sleepers v_inn_listeners v_inn_names v_inn_bed v_inn_how v_inn_doorA v_from v_inn_doorB) (z.1) (wX12_safe E h h_inn h_tape h_far h_from h_real h_other h_kept h_set h_w h_book h_noteSort h_whose h_what h_noteIs h_fitting h_dawn h_likes h_walked h_came h_inn_creak h_inn_doorA h_inn_doorB h_inn_how h_inn_lies h_inn_isCold h_inn_falls h_inn_isFull h_inn_isTold h_inn_act h_inn_what h_inn_then h_inn_met h_inn_bed h_inn_dream h_inn_listens h_inn_name h_inn_nameSort h_inn_nameNumber z.2.1 z.2.2.1 z.2.2.2.1 v_read v_taped v_size v_at v_sort v_place v_sign v_number v_fault v_wrongAt v_word v_marks v_notes v_inn_minutes v_inn_rooms v_inn_doors v_inn_things v_inn_dreams v_inn_sleepers v_inn_listeners v_inn_names v_inn_bed v_inn_how v_inn_doorA z.2.2.2.2 v_inn_doorB) := by
  intro sz
  refine ct_body (by decide) (Nat.le_of_ble_eq_true rfl) ?_
  intro p e s m args below meth c A ls hAe C hr hin hP hD hS hl
  have C : CX p s m args meth c cX12_safe RX12 3 E A := C
  have hl : lv_has ls 3 [(0, .ref h), (1, .int p0)] := hl
  have hx := C.1
  have hb := C.2.1
  rw [hAe]
  clear hAe
  obtain ⟨Q, hQ⟩ : ∃ Q, Q = MQ below (Qi E A (z.1) (wX12_safe E h h_inn h_tape h_far h_from h_real h_other h_kept h_set h_w h_book h_noteSort h_whose h_what h_noteIs h_fitting h_dawn h_likes h_walked h_came h_inn_creak h_inn_doorA h_inn_doorB h_inn_how h_inn_lies h_inn_isCold h_inn_falls h_inn_isFull h_inn_isTold h_inn_act h_inn_what h_inn_then h_inn_met h_inn_bed h_inn_dream h_inn_listens h_inn_name h_inn_nameSort h_inn_nameNumber z.2.1 z.2.2.1 z.2.2.2.1 v_read v_taped v_size v_at v_sort v_place v_sign v_number v_fault v_wrongAt v_word v_marks v_notes v_inn_minutes v_inn_rooms v_inn_doors v_inn_things v_inn_dreams v_inn_sleepers v_inn_listeners v_inn_names v_inn_bed v_inn_how v_inn_doorA z.2.2.2.2 v_inn_doorB)) args s 0 0 A := ⟨_, rfl⟩
  rw [← hQ]
  unfold fX12_safe at hf
  refine lv_aload_n (pc := 0) hx hb dX12_safe_0 rfl (lv_at hl 0 rfl) ?_
  refine lv_iconst (pc := 1) (v := 0) hx hb dX12_safe_1 (by decide) ?_
  refine r_put (pc := 2) (ws' := (wX12_safe E h h_inn h_tape h_far h_from h_real h_other h_kept h_set h_w h_book h_noteSort h_whose h_what h_noteIs h_fitting h_dawn h_likes h_walked h_came h_inn_creak h_inn_doorA h_inn_doorB h_inn_how h_inn_lies h_inn_isCold h_inn_falls h_inn_isFull h_inn_isTold h_inn_act h_inn_what h_inn_then h_inn_met h_inn_bed h_inn_dream h_inn_listens h_inn_name h_inn_nameSort h_inn_nameNumber 0 v_trouble v_where v_read v_taped v_size v_at v_sort v_place v_sign v_number v_fault v_wrongAt v_word v_marks v_notes v_inn_minutes v_inn_rooms v_inn_doors v_inn_things v_inn_dreams v_inn_sleepers v_inn_listeners v_inn_names v_inn_bed v_inn_how v_inn_doorA v_from v_inn_doorB)) C hP hD hS 0 rfl fl_X12_71 rfl rfl (Nat.le_of_ble_eq_true rfl) rfl dX12_safe_2 ?_
  clear hP hD hS; intro H locs hP hD hS
  refine lv_aload_n (pc := 5) hx hb dX12_safe_5 rfl (lv_at hl 0 rfl) ?_
  refine lv_iload_n (pc := 6) hx hb dX12_safe_6 rfl (lv_at hl 1 rfl) ?_
  obtain ⟨r_7, hc_7, hf⟩ := bd1 hf
  refine r_dalVi (pc := 7) (ws' := (wX12_safe E h h_inn h_tape h_far h_from h_real h_other h_kept h_set h_w h_book h_noteSort h_whose h_what h_noteIs h_fitting h_dawn h_likes h_walked h_came h_inn_creak h_inn_doorA h_inn_doorB h_inn_how h_inn_lies h_inn_isCold h_inn_falls h_inn_isFull h_inn_isTold h_inn_act h_inn_what h_inn_then h_inn_met h_inn_bed h_inn_dream h_inn_listens h_inn_name h_inn_nameSort h_inn_nameNumber 0 v_trouble v_where v_read v_taped v_size v_at v_sort v_place v_sign v_number v_fault v_wrongAt v_word v_marks v_notes v_inn_minutes v_inn_rooms v_inn_doors v_inn_things v_inn_dreams v_inn_sleepers v_inn_listeners v_inn_names v_inn_bed v_inn_how v_inn_doorA v_from v_inn_doorB)) (As := [.int p0]) (rest := []) C (ctX12_isRoom l E h h_inn h_tape h_far h_from h_real h_other h_kept h_set h_w h_book h_noteSort h_whose h_what h_noteIs h_fitting h_dawn h_likes h_walked h_came h_inn_creak h_inn_doorA h_inn_doorB h_inn_how h_inn_lies h_inn_isCold h_inn_falls h_inn_isFull h_inn_isTold h_inn_act h_inn_what h_inn_then h_inn_met h_inn_bed h_inn_dream h_inn_listens h_inn_name h_inn_nameSort h_inn_nameNumber 0 v_trouble v_where v_read v_taped v_size v_at v_sort v_place v_sign v_number v_fault v_wrongAt v_word v_marks v_notes v_inn_minutes v_inn_rooms v_inn_doors v_inn_things v_inn_dreams v_inn_sleepers v_inn_listeners v_inn_names N p0 r_7 hc_7) ml_X12_379 ⟨Nat.le_of_ble_eq_true rfl, Nat.le_of_ble_eq_true rfl⟩ hP hD hS 0 rfl rfl rfl [0, 1] [7, 8, 2, 3, 4, 5, 6] 7 rfl rfl rfl rfl rfl rfl rfl hl.1 rfl (Nat.le_of_ble_eq_true rfl) ⟨Nat.zero_le _, Nat.zero_le _⟩ dX12_safe_7 ?_
  clear hP hD hS; intro H locs hP hD hS
  refine lv_if_ne (pc := 10) (tgt := 19) hx hb dX12_safe_10 (by decide) (fun c_10 => ?_) (fun c_10 => ?_)
  · replace hf := it_f c_10 hf
    refine lv_aload_n (pc := 19) hx hb dX12_safe_19 rfl (lv_at hl 0 rfl) ?_
    refine lv_iload_n (pc := 20) hx hb dX12_safe_20 rfl (lv_at hl 1 rfl) ?_
    obtain ⟨r_21, v_from_21, hc_21, hf⟩ := bd2 hf
    refine r_dalVi (pc := 21) (ws' := (wX12_safe E h h_inn h_tape h_far h_from h_real h_other h_kept h_set h_w h_book h_noteSort h_whose h_what h_noteIs h_fitting h_dawn h_likes h_walked h_came h_inn_creak h_inn_doorA h_inn_doorB h_inn_how h_inn_lies h_inn_isCold h_inn_falls h_inn_isFull h_inn_isTold h_inn_act h_inn_what h_inn_then h_inn_met h_inn_bed h_inn_dream h_inn_listens h_inn_name h_inn_nameSort h_inn_nameNumber 0 v_trouble v_where v_read v_taped v_size v_at v_sort v_place v_sign v_number v_fault v_wrongAt v_word v_marks v_notes v_inn_minutes v_inn_rooms v_inn_doors v_inn_things v_inn_dreams v_inn_sleepers v_inn_listeners v_inn_names v_inn_bed v_inn_how v_inn_doorA v_from_21 v_inn_doorB)) (As := [.int p0]) (rest := []) C (ctX12_safest l E h h_inn h_tape h_far h_from h_real h_other h_kept h_set h_w h_book h_noteSort h_whose h_what h_noteIs h_fitting h_dawn h_likes h_walked h_came h_inn_creak h_inn_doorA h_inn_doorB h_inn_how h_inn_lies h_inn_isCold h_inn_falls h_inn_isFull h_inn_isTold h_inn_act h_inn_what h_inn_then h_inn_met h_inn_bed h_inn_dream h_inn_listens h_inn_name h_inn_nameSort h_inn_nameNumber 0 v_trouble v_where v_read v_taped v_size v_at v_sort v_place v_sign v_number v_fault v_wrongAt v_word v_marks v_notes v_inn_minutes v_inn_rooms v_inn_doors v_inn_things v_inn_dreams v_inn_sleepers v_inn_listeners v_inn_names v_inn_bed v_inn_how v_inn_doorA v_from v_inn_doorB N p0 (r_21, v_from_21) hc_21) ml_X12_495 ⟨Nat.le_of_ble_eq_true rfl, Nat.le_of_ble_eq_true rfl⟩ hP hD hS 0 rfl rfl rfl [0, 1, 2, 3, 4, 5, 6] [7, 8, 9, 10, 11, 12, 13] 7 rfl rfl rfl rfl rfl rfl rfl hl.1 rfl (Nat.le_of_ble_eq_true rfl) ⟨Nat.zero_le _, Nat.zero_le _⟩ dX12_safe_21 ?_
    clear hP hD hS; intro H locs hP hD hS
    refine lv_istore_n (pc := 24) (lv' := [(2, .int r_21), (0, .ref h), (1, .int p0)]) hx hb dX12_safe_24 rfl hl (by decide) rfl (fun ls hl => ?_)
    refine lv_aload_n (pc := 25) hx hb dX12_safe_25 rfl (lv_at hl 1 rfl) ?_
    refine lv_iload_n (pc := 26) hx hb dX12_safe_26 rfl (lv_at hl 0 rfl) ?_
    refine lv_bipush (pc := 27) (v := (-2)) hx hb dX12_safe_27 (by decide) ?_
    refine lv_icmp_ne (pc := 29) (tgt := 37) hx hb dX12_safe_29 (by decide) (fun c_29 => ?_) (fun c_29 => ?_)
    · replace hf := it_f c_29 hf
      refine lv_iload_n (pc := 37) hx hb dX12_safe_37 rfl (lv_at hl 0 rfl) ?_
      obtain ⟨r_38, hc_38, hf⟩ := bd1 hf
      refine r_dalSi (pc := 38) (Cn := "") (h := 0) (ws' := (wX12_safe E h h_inn h_tape h_far h_from h_real h_other h_kept h_set h_w h_book h_noteSort h_whose h_what h_noteIs h_fitting h_dawn h_likes h_walked h_came h_inn_creak h_inn_doorA h_inn_doorB h_inn_how h_inn_lies h_inn_isCold h_inn_falls h_inn_isFull h_inn_isTold h_inn_act h_inn_what h_inn_then h_inn_met h_inn_bed h_inn_dream h_inn_listens h_inn_name h_inn_nameSort h_inn_nameNumber 0 v_trouble v_where v_read v_taped v_size v_at v_sort v_place v_sign v_number v_fault v_wrongAt v_word v_marks v_notes v_inn_minutes v_inn_rooms v_inn_doors v_inn_things v_inn_dreams v_inn_sleepers v_inn_listeners v_inn_names v_inn_bed v_inn_how v_inn_doorA v_from_21 v_inn_doorB)) (As := [.int r_21]) (rest := [.ref h]) C (ctX12_bits l E N r_21 r_38 hc_38) ml_X12_492 ⟨Nat.le_of_ble_eq_true rfl, Nat.le_of_ble_eq_true rfl⟩ hP hD hS [] [0, 1, 2, 3, 4, 5, 6] 7 rfl rfl rfl rfl rfl rfl rfl hl.1 rfl (Nat.le_of_ble_eq_true rfl) ⟨Nat.zero_le _, Nat.zero_le _⟩ dX12_safe_38 ?_
      clear hP hD hS; intro H locs hP hD hS
      obtain ⟨r_41, v_trouble_41, v_where_41, hc_41, hf⟩ := bd3 hf
      refine r_dalVi (pc := 41) (ws' := (wX12_safe E h h_inn h_tape h_far h_from h_real h_other h_kept h_set h_w h_book h_noteSort h_whose h_what h_noteIs h_fitting h_dawn h_likes h_walked h_came h_inn_creak h_inn_doorA h_inn_doorB h_inn_how h_inn_lies h_inn_isCold h_inn_falls h_inn_isFull h_inn_isTold h_inn_act h_inn_what h_inn_then h_inn_met h_inn_bed h_inn_dream h_inn_listens h_inn_name h_inn_nameSort h_inn_nameNumber 0 v_trouble_41 v_where_41 v_read v_taped v_size v_at v_sort v_place v_sign v_number v_fault v_wrongAt v_word v_marks v_notes v_inn_minutes v_inn_rooms v_inn_doors v_inn_things v_inn_dreams v_inn_sleepers v_inn_listeners v_inn_names v_inn_bed v_inn_how v_inn_doorA v_from_21 v_inn_doorB)) (As := [.int r_38]) (rest := []) C (ctX12_good l E h h_tape h_far h_from h_real h_other h_kept h_set h_w h_book h_noteSort h_whose h_what h_noteIs h_fitting h_dawn h_likes h_walked h_came 0 v_trouble v_where (some h_inn) v_read v_taped v_size v_at v_sort v_place v_sign v_number v_fault v_wrongAt v_word v_marks v_notes N r_38 (r_41, v_trouble_41, v_where_41) hc_41) ml_X12_81 ⟨Nat.le_of_ble_eq_true rfl, Nat.le_of_ble_eq_true rfl⟩ hP hD hS 0 rfl rfl rfl [0] [7, 1, 2, 3, 4, 5, 6] 7 rfl rfl rfl rfl rfl rfl rfl hl.1 rfl (Nat.le_of_ble_eq_true rfl) ⟨Nat.zero_le _, Nat.zero_le _⟩ dX12_safe_41 ?_
      clear hP hD hS; intro H locs hP hD hS
      cases hf
      rw [hQ]
      exact r_iret C hr hP hD hS rfl dX12_safe_44
    · replace hf := it_t c_29 hf
      refine lv_bipush (pc := 32) (v := (-2)) hx hb dX12_safe_32 (by decide) ?_
      refine lv_goto (pc := 34) (tgt := 41) hx hb dX12_safe_34 (by decide) ?_
      obtain ⟨r_41, v_trouble_41, v_where_41, hc_41, hf⟩ := bd3 hf
      refine r_dalVi (pc := 41) (ws' := (wX12_safe E h h_inn h_tape h_far h_from h_real h_other h_kept h_set h_w h_book h_noteSort h_whose h_what h_noteIs h_fitting h_dawn h_likes h_walked h_came h_inn_creak h_inn_doorA h_inn_doorB h_inn_how h_inn_lies h_inn_isCold h_inn_falls h_inn_isFull h_inn_isTold h_inn_act h_inn_what h_inn_then h_inn_met h_inn_bed h_inn_dream h_inn_listens h_inn_name h_inn_nameSort h_inn_nameNumber 0 v_trouble_41 v_where_41 v_read v_taped v_size v_at v_sort v_place v_sign v_number v_fault v_wrongAt v_word v_marks v_notes v_inn_minutes v_inn_rooms v_inn_doors v_inn_things v_inn_dreams v_inn_sleepers v_inn_listeners v_inn_names v_inn_bed v_inn_how v_inn_doorA v_from_21 v_inn_doorB)) (As := [.int (-2)]) (rest := []) C (ctX12_good l E h h_tape h_far h_from h_real h_other h_kept h_set h_w h_book h_noteSort h_whose h_what h_noteIs h_fitting h_dawn h_likes h_walked h_came 0 v_trouble v_where (some h_inn) v_read v_taped v_size v_at v_sort v_place v_sign v_number v_fault v_wrongAt v_word v_marks v_notes N (-2) (r_41, v_trouble_41, v_where_41) hc_41) ml_X12_81 ⟨Nat.le_of_ble_eq_true rfl, Nat.le_of_ble_eq_true rfl⟩ hP hD hS 0 rfl rfl rfl [0] [7, 1, 2, 3, 4, 5, 6] 7 rfl rfl rfl rfl rfl rfl rfl hl.1 rfl (Nat.le_of_ble_eq_true rfl) ⟨Nat.zero_le _, Nat.zero_le _⟩ dX12_safe_41 ?_
      clear hP hD hS; intro H locs hP hD hS
      cases hf
      rw [hQ]
      exact r_iret C hr hP hD hS rfl dX12_safe_44
  · replace hf := it_t c_10 hf
    refine lv_aload_n (pc := 13) hx hb dX12_safe_13 rfl (lv_at hl 0 rfl) ?_
    refine lv_iconst (pc := 14) (v := 1) hx hb dX12_safe_14 (by decide) ?_
    obtain ⟨r_15, v_trouble_15, v_where_15, hc_15, hf⟩ := bd3 hf
    refine r_dalVi (pc := 15) (ws' := (wX12_safe E h h_inn h_tape h_far h_from h_real h_other h_kept h_set h_w h_book h_noteSort h_whose h_what h_noteIs h_fitting h_dawn h_likes h_walked h_came h_inn_creak h_inn_doorA h_inn_doorB h_inn_how h_inn_lies h_inn_isCold h_inn_falls h_inn_isFull h_inn_isTold h_inn_act h_inn_what h_inn_then h_inn_met h_inn_bed h_inn_dream h_inn_listens h_inn_name h_inn_nameSort h_inn_nameNumber 0 v_trouble_15 v_where_15 v_read v_taped v_size v_at v_sort v_place v_sign v_number v_fault v_wrongAt v_word v_marks v_notes v_inn_minutes v_inn_rooms v_inn_doors v_inn_things v_inn_dreams v_inn_sleepers v_inn_listeners v_inn_names v_inn_bed v_inn_how v_inn_doorA v_from v_inn_doorB)) (As := [.int 1]) (rest := []) C (ctX12_refused l E h h_tape h_far h_from h_real h_other h_kept h_set h_w h_book h_noteSort h_whose h_what h_noteIs h_fitting h_dawn h_likes h_walked h_came 0 v_trouble v_where (some h_inn) v_read v_taped v_size v_at v_sort v_place v_sign v_number v_fault v_wrongAt v_word v_marks v_notes N 1 (r_15, v_trouble_15, v_where_15) hc_15) ml_X12_77 ⟨Nat.le_of_ble_eq_true rfl, Nat.le_of_ble_eq_true rfl⟩ hP hD hS 0 rfl rfl rfl [0] [7, 1, 2, 3, 4, 5, 6] 7 rfl rfl rfl rfl rfl rfl rfl hl.1 rfl (Nat.le_of_ble_eq_true rfl) ⟨Nat.zero_le _, Nat.zero_le _⟩ dX12_safe_15 ?_
    clear hP hD hS; intro H locs hP hD hS
    cases hf
    rw [hQ]
    exact r_iret C hr hP hD hS rfl dX12_safe_18
def wX12_safe0 (E : EN) (h h_tape h_far h_from h_real h_other h_kept h_set h_w h_book h_noteSort h_whose h_what h_noteIs h_fitting h_dawn h_likes h_walked h_came : Nat) (v_thrown : Int32) (v_trouble : Int32) (v_where : Int32) (v_read : Option Nat) (v_taped : Int32) (v_size : Int32) (v_at : Int32) (v_sort : Int32) (v_place : Int32) (v_sign : Int32) (v_number : Int32) (v_fault : Int32) (v_wrongAt : Int32) (v_word : Int64) (v_marks : Int32) (v_notes : Int32) : va_W := [(h, .inr (11, [.int v_thrown, .int v_trouble, .int v_where, .null, va_rf v_read, .ref h_tape, .int v_taped, .int v_size, .int v_at, .int v_sort, .int v_place, .int v_sign, .int v_number, .int v_fault, .int v_wrongAt, .long v_word, .ref h_far, .ref h_from, .ref h_real, .ref h_other, .ref h_kept, .ref h_set, .ref h_w, .int v_marks, .int v_notes, .ref h_book, .ref h_noteSort, .ref h_whose, .ref h_what, .ref h_noteIs, .ref h_fitting, .ref h_dawn, .ref h_likes, .ref h_walked, .ref h_came]))]
def fX12_safe0 (N : Nat) : Option (Int32 × Int32 × Int32 × Int32) := (fX12_isRoom0 N).bind (un1 fun (r_7 : Int32) => if r_7 = 0 then ((fX12_refused N 1).bind (un3 fun (r_15 : Int32) (v_trouble_15 : Int32) (v_where_15 : Int32) => some (r_15, 0, v_trouble_15, v_where_15))) else (none))
set_option maxHeartbeats 4000000 in
set_option maxRecDepth 100000 in
theorem ctX12_safe0 (l : Launch) (E : EN) (h h_tape h_far h_from h_real h_other h_kept h_set h_w h_book h_noteSort h_whose h_what h_noteIs h_fitting h_dawn h_likes h_walked h_came : Nat) (v_thrown : Int32) (v_trouble : Int32) (v_where : Int32) (v_read : Option Nat) (v_taped : Int32) (v_size : Int32) (v_at : Int32) (v_sort : Int32) (v_place : Int32) (v_sign : Int32) (v_number : Int32) (v_fault : Int32) (v_wrongAt : Int32) (v_word : Int64) (v_marks : Int32) (v_notes : Int32) (N : Nat) (p0 : Int32) (z : Int32 × Int32 × Int32 × Int32) (hf : fX12_safe0 N  = some z) : CTi l E yX12_safe cX12_safe 3 .int 1 21 [.ref h, .int p0] (wX12_safe0 E h h_tape h_far h_from h_real h_other h_kept h_set h_w h_book h_noteSort h_whose h_what h_noteIs h_fitting h_dawn h_likes h_walked h_came v_thrown v_trouble v_where v_read v_taped v_size v_at v_sort v_place v_sign v_number v_fault v_wrongAt v_word v_marks v_notes) (z.1) (wX12_safe0 E h h_tape h_far h_from h_real h_other h_kept h_set h_w h_book h_noteSort h_whose h_what h_noteIs h_fitting h_dawn h_likes h_walked h_came z.2.1 z.2.2.1 z.2.2.2 v_read v_taped v_size v_at v_sort v_place v_sign v_number v_fault v_wrongAt v_word v_marks v_notes) := by
  intro sz
  refine ct_body (by decide) (Nat.le_of_ble_eq_true rfl) ?_
  intro p e s m args below meth c A ls hAe C hr hin hP hD hS hl
  have C : CX p s m args meth c cX12_safe RX12 3 E A := C
  have hl : lv_has ls 3 [(0, .ref h), (1, .int p0)] := hl
  have hx := C.1
  have hb := C.2.1
  rw [hAe]
  clear hAe
  obtain ⟨Q, hQ⟩ : ∃ Q, Q = MQ below (Qi E A (z.1) (wX12_safe0 E h h_tape h_far h_from h_real h_other h_kept h_set h_w h_book h_noteSort h_whose h_what h_noteIs h_fitting h_dawn h_likes h_walked h_came z.2.1 z.2.2.1 z.2.2.2 v_read v_taped v_size v_at v_sort v_place v_sign v_number v_fault v_wrongAt v_word v_marks v_notes)) args s 0 0 A := ⟨_, rfl⟩
  rw [← hQ]
  unfold fX12_safe0 at hf
  refine lv_aload_n (pc := 0) hx hb dX12_safe_0 rfl (lv_at hl 0 rfl) ?_
  refine lv_iconst (pc := 1) (v := 0) hx hb dX12_safe_1 (by decide) ?_
  refine r_put (pc := 2) (ws' := (wX12_safe0 E h h_tape h_far h_from h_real h_other h_kept h_set h_w h_book h_noteSort h_whose h_what h_noteIs h_fitting h_dawn h_likes h_walked h_came 0 v_trouble v_where v_read v_taped v_size v_at v_sort v_place v_sign v_number v_fault v_wrongAt v_word v_marks v_notes)) C hP hD hS 0 rfl fl_X12_71 rfl rfl (Nat.le_of_ble_eq_true rfl) rfl dX12_safe_2 ?_
  clear hP hD hS; intro H locs hP hD hS
  refine lv_aload_n (pc := 5) hx hb dX12_safe_5 rfl (lv_at hl 0 rfl) ?_
  refine lv_iload_n (pc := 6) hx hb dX12_safe_6 rfl (lv_at hl 1 rfl) ?_
  obtain ⟨r_7, hc_7, hf⟩ := bd1 hf
  refine r_dalVi (pc := 7) (ws' := (wX12_safe0 E h h_tape h_far h_from h_real h_other h_kept h_set h_w h_book h_noteSort h_whose h_what h_noteIs h_fitting h_dawn h_likes h_walked h_came 0 v_trouble v_where v_read v_taped v_size v_at v_sort v_place v_sign v_number v_fault v_wrongAt v_word v_marks v_notes)) (As := [.int p0]) (rest := []) C (ctX12_isRoom0 l E h h_tape h_far h_from h_real h_other h_kept h_set h_w h_book h_noteSort h_whose h_what h_noteIs h_fitting h_dawn h_likes h_walked h_came 0 v_trouble v_where v_read v_taped v_size v_at v_sort v_place v_sign v_number v_fault v_wrongAt v_word v_marks v_notes N p0 r_7 hc_7) ml_X12_379 ⟨Nat.le_of_ble_eq_true rfl, Nat.le_of_ble_eq_true rfl⟩ hP hD hS 0 rfl rfl rfl [0] [1] 1 rfl rfl rfl rfl rfl rfl rfl hl.1 rfl (Nat.le_of_ble_eq_true rfl) ⟨Nat.zero_le _, Nat.zero_le _⟩ dX12_safe_7 ?_
  clear hP hD hS; intro H locs hP hD hS
  refine lv_if_ne (pc := 10) (tgt := 19) hx hb dX12_safe_10 (by decide) (fun c_10 => ?_) (fun c_10 => ?_)
  · replace hf := it_f c_10 hf
    refine lv_aload_n (pc := 19) hx hb dX12_safe_19 rfl (lv_at hl 0 rfl) ?_
    refine lv_iload_n (pc := 20) hx hb dX12_safe_20 rfl (lv_at hl 1 rfl) ?_
    cases hf
  · replace hf := it_t c_10 hf
    refine lv_aload_n (pc := 13) hx hb dX12_safe_13 rfl (lv_at hl 0 rfl) ?_
    refine lv_iconst (pc := 14) (v := 1) hx hb dX12_safe_14 (by decide) ?_
    obtain ⟨r_15, v_trouble_15, v_where_15, hc_15, hf⟩ := bd3 hf
    refine r_dalVi (pc := 15) (ws' := (wX12_safe0 E h h_tape h_far h_from h_real h_other h_kept h_set h_w h_book h_noteSort h_whose h_what h_noteIs h_fitting h_dawn h_likes h_walked h_came 0 v_trouble_15 v_where_15 v_read v_taped v_size v_at v_sort v_place v_sign v_number v_fault v_wrongAt v_word v_marks v_notes)) (As := [.int 1]) (rest := []) C (ctX12_refused l E h h_tape h_far h_from h_real h_other h_kept h_set h_w h_book h_noteSort h_whose h_what h_noteIs h_fitting h_dawn h_likes h_walked h_came 0 v_trouble v_where none v_read v_taped v_size v_at v_sort v_place v_sign v_number v_fault v_wrongAt v_word v_marks v_notes N 1 (r_15, v_trouble_15, v_where_15) hc_15) ml_X12_77 ⟨Nat.le_of_ble_eq_true rfl, Nat.le_of_ble_eq_true rfl⟩ hP hD hS 0 rfl rfl rfl [0] [1] 1 rfl rfl rfl rfl rfl rfl rfl hl.1 rfl (Nat.le_of_ble_eq_true rfl) ⟨Nat.zero_le _, Nat.zero_le _⟩ dX12_safe_15 ?_
    clear hP hD hS; intro H locs hP hD hS
    cases hf
    rw [hQ]
    exact r_iret C hr hP hD hS rfl dX12_safe_18
def wX12_safely (E : EN) (h h_inn h_tape h_far h_from h_real h_other h_kept h_set h_w h_book h_noteSort h_whose h_what h_noteIs h_fitting h_dawn h_likes h_walked h_came h_inn_creak h_inn_doorA h_inn_doorB h_inn_how h_inn_lies h_inn_isCold h_inn_falls h_inn_isFull h_inn_isTold h_inn_act h_inn_what h_inn_then h_inn_met h_inn_bed h_inn_dream h_inn_listens h_inn_name h_inn_nameSort h_inn_nameNumber : Nat) (v_thrown : Int32) (v_trouble : Int32) (v_where : Int32) (v_read : Option Nat) (v_taped : Int32) (v_size : Int32) (v_at : Int32) (v_sort : Int32) (v_place : Int32) (v_sign : Int32) (v_number : Int32) (v_fault : Int32) (v_wrongAt : Int32) (v_word : Int64) (v_marks : Int32) (v_notes : Int32) (v_inn_minutes : Int32) (v_inn_rooms : Int32) (v_inn_doors : Int32) (v_inn_things : Int32) (v_inn_dreams : Int32) (v_inn_sleepers : Int32) (v_inn_listeners : Int32) (v_inn_names : Int32) (v_inn_bed : Nat → Int32) (v_inn_how : Nat → Int32) (v_inn_doorA : Nat → Int32) (v_from : Nat → Int32) (v_inn_doorB : Nat → Int32) : va_W := [(h, .inr (11, [.int v_thrown, .int v_trouble, .int v_where, .ref h_inn, va_rf v_read, .ref h_tape, .int v_taped, .int v_size, .int v_at, .int v_sort, .int v_place, .int v_sign, .int v_number, .int v_fault, .int v_wrongAt, .long v_word, .ref h_far, .ref h_from, .ref h_real, .ref h_other, .ref h_kept, .ref h_set, .ref h_w, .int v_marks, .int v_notes, .ref h_book, .ref h_noteSort, .ref h_whose, .ref h_what, .ref h_noteIs, .ref h_fitting, .ref h_dawn, .ref h_likes, .ref h_walked, .ref h_came])), (h_inn, .inr (10, [.int v_inn_minutes, .int v_inn_rooms, .int v_inn_doors, .int v_inn_things, .int v_inn_dreams, .int v_inn_sleepers, .int v_inn_listeners, .int v_inn_names, .ref h_inn_creak, .ref h_inn_doorA, .ref h_inn_doorB, .ref h_inn_how, .ref h_inn_lies, .ref h_inn_isCold, .ref h_inn_falls, .ref h_inn_isFull, .ref h_inn_isTold, .ref h_inn_act, .ref h_inn_what, .ref h_inn_then, .ref h_inn_met, .ref h_inn_bed, .ref h_inn_dream, .ref h_inn_listens, .ref h_inn_name, .ref h_inn_nameSort, .ref h_inn_nameNumber])), (h_inn_bed, aI E 3 v_inn_bed), (h_inn_how, aI E 10 v_inn_how), (h_inn_doorA, aI E 10 v_inn_doorA), (h_from, aI E 8 v_from), (h_inn_doorB, aI E 10 v_inn_doorB)]
def fX12_safely (N : Nat) (p0 : Int32) (v_inn_rooms : Int32) (v_inn_doors : Int32) (v_inn_sleepers : Int32) (v_inn_bed : Nat → Int32) (v_inn_how : Nat → Int32) (v_inn_doorA : Nat → Int32) (v_from : Nat → Int32) (v_inn_doorB : Nat → Int32) : Option (Int32 × Int32 × Int32 × Int32 × (Nat → Int32)) := (fX12_isRoom N p0 v_inn_rooms).bind (un1 fun (r_7 : Int32) => if r_7 = 0 then ((fX12_refused N 1).bind (un3 fun (r_27 : Int32) (v_trouble_27 : Int32) (v_where_27 : Int32) => some (r_27, 0, v_trouble_27, v_where_27, v_from))) else ((fX12_safest N p0 v_inn_rooms v_inn_doors v_inn_sleepers v_inn_bed v_inn_how v_inn_doorA v_from v_inn_doorB).bind (un2 fun (r_16 : Int32) (v_from_16 : Nat → Int32) => (fX12_good N r_16).bind (un3 fun (r_19 : Int32) (v_trouble_19 : Int32) (v_where_19 : Int32) => some (r_19, 0, v_trouble_19, v_where_19, v_from_16)))))
set_option maxHeartbeats 4000000 in
set_option maxRecDepth 100000 in
theorem ctX12_safely (l : Launch) (E : EN) (h h_inn h_tape h_far h_from h_real h_other h_kept h_set h_w h_book h_noteSort h_whose h_what h_noteIs h_fitting h_dawn h_likes h_walked h_came h_inn_creak h_inn_doorA h_inn_doorB h_inn_how h_inn_lies h_inn_isCold h_inn_falls h_inn_isFull h_inn_isTold h_inn_act h_inn_what h_inn_then h_inn_met h_inn_bed h_inn_dream h_inn_listens h_inn_name h_inn_nameSort h_inn_nameNumber : Nat) (v_thrown : Int32) (v_trouble : Int32) (v_where : Int32) (v_read : Option Nat) (v_taped : Int32) (v_size : Int32) (v_at : Int32) (v_sort : Int32) (v_place : Int32) (v_sign : Int32) (v_number : Int32) (v_fault : Int32) (v_wrongAt : Int32) (v_word : Int64) (v_marks : Int32) (v_notes : Int32) (v_inn_minutes : Int32) (v_inn_rooms : Int32) (v_inn_doors : Int32) (v_inn_things : Int32) (v_inn_dreams : Int32) (v_inn_sleepers : Int32) (v_inn_listeners : Int32) (v_inn_names : Int32) (v_inn_bed : Nat → Int32) (v_inn_how : Nat → Int32) (v_inn_doorA : Nat → Int32) (v_from : Nat → Int32) (v_inn_doorB : Nat → Int32) (N : Nat) (p0 : Int32) (z : Int32 × Int32 × Int32 × Int32 × (Nat → Int32)) (hf : fX12_safely N p0 v_inn_rooms v_inn_doors v_inn_sleepers v_inn_bed v_inn_how v_inn_doorA v_from v_inn_doorB = some z) : CTi l E yX12_safely cX12_safely 2 .int 3 71 [.ref h, .int p0] (wX12_safely E h h_inn h_tape h_far h_from h_real h_other h_kept h_set h_w h_book h_noteSort h_whose h_what h_noteIs h_fitting h_dawn h_likes h_walked h_came h_inn_creak h_inn_doorA h_inn_doorB h_inn_how h_inn_lies h_inn_isCold h_inn_falls h_inn_isFull h_inn_isTold h_inn_act h_inn_what h_inn_then h_inn_met h_inn_bed h_inn_dream h_inn_listens h_inn_name h_inn_nameSort h_inn_nameNumber v_thrown v_trouble v_where v_read v_taped v_size v_at v_sort v_place v_sign v_number v_fault v_wrongAt v_word v_marks v_notes v_inn_minutes v_inn_rooms v_inn_doors v_inn_things v_inn_dreams v_inn_sleepers v_inn_listeners v_inn_names v_inn_bed v_inn_how v_inn_doorA v_from v_inn_doorB) (z.1) (wX12_safely E h h_inn h_tape h_far h_from h_real h_other h_kept h_set h_w h_book h_noteSort h_whose h_what h_noteIs h_fitting h_dawn h_likes h_walked h_came h_inn_creak h_inn_doorA h_inn_doorB h_inn_how h_inn_lies h_inn_isCold h_inn_falls h_inn_isFull h_inn_isTold h_inn_act h_inn_what h_inn_then h_inn_met h_inn_bed h_inn_dream h_inn_listens h_inn_name h_inn_nameSort h_inn_nameNumber z.2.1 z.2.2.1 z.2.2.2.1 v_read v_taped v_size v_at v_sort v_place v_sign v_number v_fault v_wrongAt v_word v_marks v_notes v_inn_minutes v_inn_rooms v_inn_doors v_inn_things v_inn_dreams v_inn_sleepers v_inn_listeners v_inn_names v_inn_bed v_inn_how v_inn_doorA z.2.2.2.2 v_inn_doorB) := by
  intro sz
  refine ct_body (by decide) (Nat.le_of_ble_eq_true rfl) ?_
  intro p e s m args below meth c A ls hAe C hr hin hP hD hS hl
  have C : CX p s m args meth c cX12_safely RX12 2 E A := C
  have hl : lv_has ls 2 [(0, .ref h), (1, .int p0)] := hl
  have hx := C.1
  have hb := C.2.1
  rw [hAe]
  clear hAe
  obtain ⟨Q, hQ⟩ : ∃ Q, Q = MQ below (Qi E A (z.1) (wX12_safely E h h_inn h_tape h_far h_from h_real h_other h_kept h_set h_w h_book h_noteSort h_whose h_what h_noteIs h_fitting h_dawn h_likes h_walked h_came h_inn_creak h_inn_doorA h_inn_doorB h_inn_how h_inn_lies h_inn_isCold h_inn_falls h_inn_isFull h_inn_isTold h_inn_act h_inn_what h_inn_then h_inn_met h_inn_bed h_inn_dream h_inn_listens h_inn_name h_inn_nameSort h_inn_nameNumber z.2.1 z.2.2.1 z.2.2.2.1 v_read v_taped v_size v_at v_sort v_place v_sign v_number v_fault v_wrongAt v_word v_marks v_notes v_inn_minutes v_inn_rooms v_inn_doors v_inn_things v_inn_dreams v_inn_sleepers v_inn_listeners v_inn_names v_inn_bed v_inn_how v_inn_doorA z.2.2.2.2 v_inn_doorB)) args s 0 0 A := ⟨_, rfl⟩
  rw [← hQ]
  unfold fX12_safely at hf
  refine lv_aload_n (pc := 0) hx hb dX12_safely_0 rfl (lv_at hl 0 rfl) ?_
  refine lv_iconst (pc := 1) (v := 0) hx hb dX12_safely_1 (by decide) ?_
  refine r_put (pc := 2) (ws' := (wX12_safely E h h_inn h_tape h_far h_from h_real h_other h_kept h_set h_w h_book h_noteSort h_whose h_what h_noteIs h_fitting h_dawn h_likes h_walked h_came h_inn_creak h_inn_doorA h_inn_doorB h_inn_how h_inn_lies h_inn_isCold h_inn_falls h_inn_isFull h_inn_isTold h_inn_act h_inn_what h_inn_then h_inn_met h_inn_bed h_inn_dream h_inn_listens h_inn_name h_inn_nameSort h_inn_nameNumber 0 v_trouble v_where v_read v_taped v_size v_at v_sort v_place v_sign v_number v_fault v_wrongAt v_word v_marks v_notes v_inn_minutes v_inn_rooms v_inn_doors v_inn_things v_inn_dreams v_inn_sleepers v_inn_listeners v_inn_names v_inn_bed v_inn_how v_inn_doorA v_from v_inn_doorB)) C hP hD hS 0 rfl fl_X12_71 rfl rfl (Nat.le_of_ble_eq_true rfl) rfl dX12_safely_2 ?_
  clear hP hD hS; intro H locs hP hD hS
  refine lv_aload_n (pc := 5) hx hb dX12_safely_5 rfl (lv_at hl 0 rfl) ?_
  refine lv_iload_n (pc := 6) hx hb dX12_safely_6 rfl (lv_at hl 1 rfl) ?_
  obtain ⟨r_7, hc_7, hf⟩ := bd1 hf
  refine r_dalVi (pc := 7) (ws' := (wX12_safely E h h_inn h_tape h_far h_from h_real h_other h_kept h_set h_w h_book h_noteSort h_whose h_what h_noteIs h_fitting h_dawn h_likes h_walked h_came h_inn_creak h_inn_doorA h_inn_doorB h_inn_how h_inn_lies h_inn_isCold h_inn_falls h_inn_isFull h_inn_isTold h_inn_act h_inn_what h_inn_then h_inn_met h_inn_bed h_inn_dream h_inn_listens h_inn_name h_inn_nameSort h_inn_nameNumber 0 v_trouble v_where v_read v_taped v_size v_at v_sort v_place v_sign v_number v_fault v_wrongAt v_word v_marks v_notes v_inn_minutes v_inn_rooms v_inn_doors v_inn_things v_inn_dreams v_inn_sleepers v_inn_listeners v_inn_names v_inn_bed v_inn_how v_inn_doorA v_from v_inn_doorB)) (As := [.int p0]) (rest := []) C (ctX12_isRoom l E h h_inn h_tape h_far h_from h_real h_other h_kept h_set h_w h_book h_noteSort h_whose h_what h_noteIs h_fitting h_dawn h_likes h_walked h_came h_inn_creak h_inn_doorA h_inn_doorB h_inn_how h_inn_lies h_inn_isCold h_inn_falls h_inn_isFull h_inn_isTold h_inn_act h_inn_what h_inn_then h_inn_met h_inn_bed h_inn_dream h_inn_listens h_inn_name h_inn_nameSort h_inn_nameNumber 0 v_trouble v_where v_read v_taped v_size v_at v_sort v_place v_sign v_number v_fault v_wrongAt v_word v_marks v_notes v_inn_minutes v_inn_rooms v_inn_doors v_inn_things v_inn_dreams v_inn_sleepers v_inn_listeners v_inn_names N p0 r_7 hc_7) ml_X12_379 ⟨Nat.le_of_ble_eq_true rfl, Nat.le_of_ble_eq_true rfl⟩ hP hD hS 0 rfl rfl rfl [0, 1] [7, 8, 2, 3, 4, 5, 6] 7 rfl rfl rfl rfl rfl rfl rfl hl.1 rfl (Nat.le_of_ble_eq_true rfl) ⟨Nat.zero_le _, Nat.zero_le _⟩ dX12_safely_7 ?_
  clear hP hD hS; intro H locs hP hD hS
  refine lv_if_eq (pc := 10) (tgt := 25) hx hb dX12_safely_10 (by decide) (fun c_10 => ?_) (fun c_10 => ?_)
  · replace hf := it_t c_10 hf
    refine lv_aload_n (pc := 25) hx hb dX12_safely_25 rfl (lv_at hl 0 rfl) ?_
    refine lv_iconst (pc := 26) (v := 1) hx hb dX12_safely_26 (by decide) ?_
    obtain ⟨r_27, v_trouble_27, v_where_27, hc_27, hf⟩ := bd3 hf
    refine r_dalVi (pc := 27) (ws' := (wX12_safely E h h_inn h_tape h_far h_from h_real h_other h_kept h_set h_w h_book h_noteSort h_whose h_what h_noteIs h_fitting h_dawn h_likes h_walked h_came h_inn_creak h_inn_doorA h_inn_doorB h_inn_how h_inn_lies h_inn_isCold h_inn_falls h_inn_isFull h_inn_isTold h_inn_act h_inn_what h_inn_then h_inn_met h_inn_bed h_inn_dream h_inn_listens h_inn_name h_inn_nameSort h_inn_nameNumber 0 v_trouble_27 v_where_27 v_read v_taped v_size v_at v_sort v_place v_sign v_number v_fault v_wrongAt v_word v_marks v_notes v_inn_minutes v_inn_rooms v_inn_doors v_inn_things v_inn_dreams v_inn_sleepers v_inn_listeners v_inn_names v_inn_bed v_inn_how v_inn_doorA v_from v_inn_doorB)) (As := [.int 1]) (rest := []) C (ctX12_refused l E h h_tape h_far h_from h_real h_other h_kept h_set h_w h_book h_noteSort h_whose h_what h_noteIs h_fitting h_dawn h_likes h_walked h_came 0 v_trouble v_where (some h_inn) v_read v_taped v_size v_at v_sort v_place v_sign v_number v_fault v_wrongAt v_word v_marks v_notes N 1 (r_27, v_trouble_27, v_where_27) hc_27) ml_X12_77 ⟨Nat.le_of_ble_eq_true rfl, Nat.le_of_ble_eq_true rfl⟩ hP hD hS 0 rfl rfl rfl [0] [7, 1, 2, 3, 4, 5, 6] 7 rfl rfl rfl rfl rfl rfl rfl hl.1 rfl (Nat.le_of_ble_eq_true rfl) ⟨Nat.zero_le _, Nat.zero_le _⟩ dX12_safely_27 ?_
    clear hP hD hS; intro H locs hP hD hS
    cases hf
    rw [hQ]
    exact r_iret C hr hP hD hS rfl dX12_safely_30
  · replace hf := it_f c_10 hf
    refine lv_aload_n (pc := 13) hx hb dX12_safely_13 rfl (lv_at hl 0 rfl) ?_
    refine lv_aload_n (pc := 14) hx hb dX12_safely_14 rfl (lv_at hl 0 rfl) ?_
    refine lv_iload_n (pc := 15) hx hb dX12_safely_15 rfl (lv_at hl 1 rfl) ?_
    obtain ⟨r_16, v_from_16, hc_16, hf⟩ := bd2 hf
    refine r_dalVi (pc := 16) (ws' := (wX12_safely E h h_inn h_tape h_far h_from h_real h_other h_kept h_set h_w h_book h_noteSort h_whose h_what h_noteIs h_fitting h_dawn h_likes h_walked h_came h_inn_creak h_inn_doorA h_inn_doorB h_inn_how h_inn_lies h_inn_isCold h_inn_falls h_inn_isFull h_inn_isTold h_inn_act h_inn_what h_inn_then h_inn_met h_inn_bed h_inn_dream h_inn_listens h_inn_name h_inn_nameSort h_inn_nameNumber 0 v_trouble v_where v_read v_taped v_size v_at v_sort v_place v_sign v_number v_fault v_wrongAt v_word v_marks v_notes v_inn_minutes v_inn_rooms v_inn_doors v_inn_things v_inn_dreams v_inn_sleepers v_inn_listeners v_inn_names v_inn_bed v_inn_how v_inn_doorA v_from_16 v_inn_doorB)) (As := [.int p0]) (rest := [.ref h]) C (ctX12_safest l E h h_inn h_tape h_far h_from h_real h_other h_kept h_set h_w h_book h_noteSort h_whose h_what h_noteIs h_fitting h_dawn h_likes h_walked h_came h_inn_creak h_inn_doorA h_inn_doorB h_inn_how h_inn_lies h_inn_isCold h_inn_falls h_inn_isFull h_inn_isTold h_inn_act h_inn_what h_inn_then h_inn_met h_inn_bed h_inn_dream h_inn_listens h_inn_name h_inn_nameSort h_inn_nameNumber 0 v_trouble v_where v_read v_taped v_size v_at v_sort v_place v_sign v_number v_fault v_wrongAt v_word v_marks v_notes v_inn_minutes v_inn_rooms v_inn_doors v_inn_things v_inn_dreams v_inn_sleepers v_inn_listeners v_inn_names v_inn_bed v_inn_how v_inn_doorA v_from v_inn_doorB N p0 (r_16, v_from_16) hc_16) ml_X12_495 ⟨Nat.le_of_ble_eq_true rfl, Nat.le_of_ble_eq_true rfl⟩ hP hD hS 0 rfl rfl rfl [0, 1, 2, 3, 4, 5, 6] [7, 8, 9, 10, 11, 12, 13] 7 rfl rfl rfl rfl rfl rfl rfl hl.1 rfl (Nat.le_of_ble_eq_true rfl) ⟨Nat.zero_le _, Nat.zero_le _⟩ dX12_safely_16 ?_
    clear hP hD hS; intro H locs hP hD hS
    obtain ⟨r_19, v_trouble_19, v_where_19, hc_19, hf⟩ := bd3 hf
    refine r_dalVi (pc := 19) (ws' := (wX12_safely E h h_inn h_tape h_far h_from h_real h_other h_kept h_set h_w h_book h_noteSort h_whose h_what h_noteIs h_fitting h_dawn h_likes h_walked h_came h_inn_creak h_inn_doorA h_inn_doorB h_inn_how h_inn_lies h_inn_isCold h_inn_falls h_inn_isFull h_inn_isTold h_inn_act h_inn_what h_inn_then h_inn_met h_inn_bed h_inn_dream h_inn_listens h_inn_name h_inn_nameSort h_inn_nameNumber 0 v_trouble_19 v_where_19 v_read v_taped v_size v_at v_sort v_place v_sign v_number v_fault v_wrongAt v_word v_marks v_notes v_inn_minutes v_inn_rooms v_inn_doors v_inn_things v_inn_dreams v_inn_sleepers v_inn_listeners v_inn_names v_inn_bed v_inn_how v_inn_doorA v_from_16 v_inn_doorB)) (As := [.int r_16]) (rest := []) C (ctX12_good l E h h_tape h_far h_from h_real h_other h_kept h_set h_w h_book h_noteSort h_whose h_what h_noteIs h_fitting h_dawn h_likes h_walked h_came 0 v_trouble v_where (some h_inn) v_read v_taped v_size v_at v_sort v_place v_sign v_number v_fault v_wrongAt v_word v_marks v_notes N r_16 (r_19, v_trouble_19, v_where_19) hc_19) ml_X12_81 ⟨Nat.le_of_ble_eq_true rfl, Nat.le_of_ble_eq_true rfl⟩ hP hD hS 0 rfl rfl rfl [0] [7, 1, 2, 3, 4, 5, 6] 7 rfl rfl rfl rfl rfl rfl rfl hl.1 rfl (Nat.le_of_ble_eq_true rfl) ⟨Nat.zero_le _, Nat.zero_le _⟩ dX12_safely_19 ?_
    clear hP hD hS; intro H locs hP hD hS
    refine lv_goto (pc := 22) (tgt := 30) hx hb dX12_safely_22 (by decide) ?_
    cases hf
    rw [hQ]
    exact r_iret C hr hP hD hS rfl dX12_safely_30
def wX12_safely0 (E : EN) (h h_tape h_far h_from h_real h_other h_kept h_set h_w h_book h_noteSort h_whose h_what h_noteIs h_fitting h_dawn h_likes h_walked h_came : Nat) (v_thrown : Int32) (v_trouble : Int32) (v_where : Int32) (v_read : Option Nat) (v_taped : Int32) (v_size : Int32) (v_at : Int32) (v_sort : Int32) (v_place : Int32) (v_sign : Int32) (v_number : Int32) (v_fault : Int32) (v_wrongAt : Int32) (v_word : Int64) (v_marks : Int32) (v_notes : Int32) : va_W := [(h, .inr (11, [.int v_thrown, .int v_trouble, .int v_where, .null, va_rf v_read, .ref h_tape, .int v_taped, .int v_size, .int v_at, .int v_sort, .int v_place, .int v_sign, .int v_number, .int v_fault, .int v_wrongAt, .long v_word, .ref h_far, .ref h_from, .ref h_real, .ref h_other, .ref h_kept, .ref h_set, .ref h_w, .int v_marks, .int v_notes, .ref h_book, .ref h_noteSort, .ref h_whose, .ref h_what, .ref h_noteIs, .ref h_fitting, .ref h_dawn, .ref h_likes, .ref h_walked, .ref h_came]))]
def fX12_safely0 (N : Nat) : Option (Int32 × Int32 × Int32 × Int32) := (fX12_isRoom0 N).bind (un1 fun (r_7 : Int32) => if r_7 = 0 then ((fX12_refused N 1).bind (un3 fun (r_27 : Int32) (v_trouble_27 : Int32) (v_where_27 : Int32) => some (r_27, 0, v_trouble_27, v_where_27))) else (none))
set_option maxHeartbeats 4000000 in
set_option maxRecDepth 100000 in
theorem ctX12_safely0 (l : Launch) (E : EN) (h h_tape h_far h_from h_real h_other h_kept h_set h_w h_book h_noteSort h_whose h_what h_noteIs h_fitting h_dawn h_likes h_walked h_came : Nat) (v_thrown : Int32) (v_trouble : Int32) (v_where : Int32) (v_read : Option Nat) (v_taped : Int32) (v_size : Int32) (v_at : Int32) (v_sort : Int32) (v_place : Int32) (v_sign : Int32) (v_number : Int32) (v_fault : Int32) (v_wrongAt : Int32) (v_word : Int64) (v_marks : Int32) (v_notes : Int32) (N : Nat) (p0 : Int32) (z : Int32 × Int32 × Int32 × Int32) (hf : fX12_safely0 N  = some z) : CTi l E yX12_safely cX12_safely 2 .int 1 21 [.ref h, .int p0] (wX12_safely0 E h h_tape h_far h_from h_real h_other h_kept h_set h_w h_book h_noteSort h_whose h_what h_noteIs h_fitting h_dawn h_likes h_walked h_came v_thrown v_trouble v_where v_read v_taped v_size v_at v_sort v_place v_sign v_number v_fault v_wrongAt v_word v_marks v_notes) (z.1) (wX12_safely0 E h h_tape h_far h_from h_real h_other h_kept h_set h_w h_book h_noteSort h_whose h_what h_noteIs h_fitting h_dawn h_likes h_walked h_came z.2.1 z.2.2.1 z.2.2.2 v_read v_taped v_size v_at v_sort v_place v_sign v_number v_fault v_wrongAt v_word v_marks v_notes) := by
  intro sz
  refine ct_body (by decide) (Nat.le_of_ble_eq_true rfl) ?_
  intro p e s m args below meth c A ls hAe C hr hin hP hD hS hl
  have C : CX p s m args meth c cX12_safely RX12 2 E A := C
  have hl : lv_has ls 2 [(0, .ref h), (1, .int p0)] := hl
  have hx := C.1
  have hb := C.2.1
  rw [hAe]
  clear hAe
  obtain ⟨Q, hQ⟩ : ∃ Q, Q = MQ below (Qi E A (z.1) (wX12_safely0 E h h_tape h_far h_from h_real h_other h_kept h_set h_w h_book h_noteSort h_whose h_what h_noteIs h_fitting h_dawn h_likes h_walked h_came z.2.1 z.2.2.1 z.2.2.2 v_read v_taped v_size v_at v_sort v_place v_sign v_number v_fault v_wrongAt v_word v_marks v_notes)) args s 0 0 A := ⟨_, rfl⟩
  rw [← hQ]
  unfold fX12_safely0 at hf
  refine lv_aload_n (pc := 0) hx hb dX12_safely_0 rfl (lv_at hl 0 rfl) ?_
  refine lv_iconst (pc := 1) (v := 0) hx hb dX12_safely_1 (by decide) ?_
  refine r_put (pc := 2) (ws' := (wX12_safely0 E h h_tape h_far h_from h_real h_other h_kept h_set h_w h_book h_noteSort h_whose h_what h_noteIs h_fitting h_dawn h_likes h_walked h_came 0 v_trouble v_where v_read v_taped v_size v_at v_sort v_place v_sign v_number v_fault v_wrongAt v_word v_marks v_notes)) C hP hD hS 0 rfl fl_X12_71 rfl rfl (Nat.le_of_ble_eq_true rfl) rfl dX12_safely_2 ?_
  clear hP hD hS; intro H locs hP hD hS
  refine lv_aload_n (pc := 5) hx hb dX12_safely_5 rfl (lv_at hl 0 rfl) ?_
  refine lv_iload_n (pc := 6) hx hb dX12_safely_6 rfl (lv_at hl 1 rfl) ?_
  obtain ⟨r_7, hc_7, hf⟩ := bd1 hf
  refine r_dalVi (pc := 7) (ws' := (wX12_safely0 E h h_tape h_far h_from h_real h_other h_kept h_set h_w h_book h_noteSort h_whose h_what h_noteIs h_fitting h_dawn h_likes h_walked h_came 0 v_trouble v_where v_read v_taped v_size v_at v_sort v_place v_sign v_number v_fault v_wrongAt v_word v_marks v_notes)) (As := [.int p0]) (rest := []) C (ctX12_isRoom0 l E h h_tape h_far h_from h_real h_other h_kept h_set h_w h_book h_noteSort h_whose h_what h_noteIs h_fitting h_dawn h_likes h_walked h_came 0 v_trouble v_where v_read v_taped v_size v_at v_sort v_place v_sign v_number v_fault v_wrongAt v_word v_marks v_notes N p0 r_7 hc_7) ml_X12_379 ⟨Nat.le_of_ble_eq_true rfl, Nat.le_of_ble_eq_true rfl⟩ hP hD hS 0 rfl rfl rfl [0] [1] 1 rfl rfl rfl rfl rfl rfl rfl hl.1 rfl (Nat.le_of_ble_eq_true rfl) ⟨Nat.zero_le _, Nat.zero_le _⟩ dX12_safely_7 ?_
  clear hP hD hS; intro H locs hP hD hS
  refine lv_if_eq (pc := 10) (tgt := 25) hx hb dX12_safely_10 (by decide) (fun c_10 => ?_) (fun c_10 => ?_)
  · replace hf := it_t c_10 hf
    refine lv_aload_n (pc := 25) hx hb dX12_safely_25 rfl (lv_at hl 0 rfl) ?_
    refine lv_iconst (pc := 26) (v := 1) hx hb dX12_safely_26 (by decide) ?_
    obtain ⟨r_27, v_trouble_27, v_where_27, hc_27, hf⟩ := bd3 hf
    refine r_dalVi (pc := 27) (ws' := (wX12_safely0 E h h_tape h_far h_from h_real h_other h_kept h_set h_w h_book h_noteSort h_whose h_what h_noteIs h_fitting h_dawn h_likes h_walked h_came 0 v_trouble_27 v_where_27 v_read v_taped v_size v_at v_sort v_place v_sign v_number v_fault v_wrongAt v_word v_marks v_notes)) (As := [.int 1]) (rest := []) C (ctX12_refused l E h h_tape h_far h_from h_real h_other h_kept h_set h_w h_book h_noteSort h_whose h_what h_noteIs h_fitting h_dawn h_likes h_walked h_came 0 v_trouble v_where none v_read v_taped v_size v_at v_sort v_place v_sign v_number v_fault v_wrongAt v_word v_marks v_notes N 1 (r_27, v_trouble_27, v_where_27) hc_27) ml_X12_77 ⟨Nat.le_of_ble_eq_true rfl, Nat.le_of_ble_eq_true rfl⟩ hP hD hS 0 rfl rfl rfl [0] [1] 1 rfl rfl rfl rfl rfl rfl rfl hl.1 rfl (Nat.le_of_ble_eq_true rfl) ⟨Nat.zero_le _, Nat.zero_le _⟩ dX12_safely_27 ?_
    clear hP hD hS; intro H locs hP hD hS
    cases hf
    rw [hQ]
    exact r_iret C hr hP hD hS rfl dX12_safely_30
  · replace hf := it_f c_10 hf
    refine lv_aload_n (pc := 13) hx hb dX12_safely_13 rfl (lv_at hl 0 rfl) ?_
    refine lv_aload_n (pc := 14) hx hb dX12_safely_14 rfl (lv_at hl 0 rfl) ?_
    refine lv_iload_n (pc := 15) hx hb dX12_safely_15 rfl (lv_at hl 1 rfl) ?_
    cases hf
def wX12_walksMore (E : EN) (h h_inn h_tape h_far h_from h_real h_other h_kept h_set h_w h_book h_noteSort h_whose h_what h_noteIs h_fitting h_dawn h_likes h_walked h_came h_inn_creak h_inn_doorA h_inn_doorB h_inn_how h_inn_lies h_inn_isCold h_inn_falls h_inn_isFull h_inn_isTold h_inn_act h_inn_what h_inn_then h_inn_met h_inn_bed h_inn_dream h_inn_listens h_inn_name h_inn_nameSort h_inn_nameNumber : Nat) (v_thrown : Int32) (v_trouble : Int32) (v_where : Int32) (v_read : Option Nat) (v_taped : Int32) (v_size : Int32) (v_at : Int32) (v_sort : Int32) (v_place : Int32) (v_sign : Int32) (v_number : Int32) (v_fault : Int32) (v_wrongAt : Int32) (v_word : Int64) (v_marks : Int32) (v_notes : Int32) (v_inn_minutes : Int32) (v_inn_rooms : Int32) (v_inn_doors : Int32) (v_inn_things : Int32) (v_inn_dreams : Int32) (v_inn_sleepers : Int32) (v_inn_listeners : Int32) (v_inn_names : Int32) (v_came : Nat → Int32) (v_inn_doorB : Nat → Int32) (v_walked : Nat → Int32) (v_inn_doorA : Nat → Int32) (v_inn_how : Nat → Int32) (v_inn_bed : Nat → Int32) : va_W := [(h, .inr (11, [.int v_thrown, .int v_trouble, .int v_where, .ref h_inn, va_rf v_read, .ref h_tape, .int v_taped, .int v_size, .int v_at, .int v_sort, .int v_place, .int v_sign, .int v_number, .int v_fault, .int v_wrongAt, .long v_word, .ref h_far, .ref h_from, .ref h_real, .ref h_other, .ref h_kept, .ref h_set, .ref h_w, .int v_marks, .int v_notes, .ref h_book, .ref h_noteSort, .ref h_whose, .ref h_what, .ref h_noteIs, .ref h_fitting, .ref h_dawn, .ref h_likes, .ref h_walked, .ref h_came])), (h_inn, .inr (10, [.int v_inn_minutes, .int v_inn_rooms, .int v_inn_doors, .int v_inn_things, .int v_inn_dreams, .int v_inn_sleepers, .int v_inn_listeners, .int v_inn_names, .ref h_inn_creak, .ref h_inn_doorA, .ref h_inn_doorB, .ref h_inn_how, .ref h_inn_lies, .ref h_inn_isCold, .ref h_inn_falls, .ref h_inn_isFull, .ref h_inn_isTold, .ref h_inn_act, .ref h_inn_what, .ref h_inn_then, .ref h_inn_met, .ref h_inn_bed, .ref h_inn_dream, .ref h_inn_listens, .ref h_inn_name, .ref h_inn_nameSort, .ref h_inn_nameNumber])), (h_came, aI E 8 v_came), (h_inn_doorB, aI E 10 v_inn_doorB), (h_walked, aI E 10 v_walked), (h_inn_doorA, aI E 10 v_inn_doorA), (h_inn_how, aI E 10 v_inn_how), (h_inn_bed, aI E 3 v_inn_bed)]
def BX12_walksMore_245 (x231_came : Nat → Int32) (v_inn_doorB : Nat → Int32) (v_inn_doorA : Nat → Int32) (rec245 : (Int32 × (Nat → Int32)) → Option (Int32 × (Nat → Int32) × (Nat → Int32))) : (Int32 × (Nat → Int32)) → Option (Int32 × (Nat → Int32) × (Nat → Int32)) := un2 fun (x245_3 : Int32) (x245_walked : Nat → Int32) => gd x245_3 8 (if (x231_came x245_3.toNatClampNeg) = 10 then (some (1, x231_came, x245_walked)) else (gd x245_3 8 (gd (x231_came x245_3.toNatClampNeg) 10 (jn (un1 fun (x283_s0 : Int32) => gd (x231_came x245_3.toNatClampNeg) 10 (jn (un2 fun (x315_s1 : Int32) (x315_s2 : Int32) => gd x315_s1 10 (jn (un1 fun (x344_s0 : Int32) => rec245 (x344_s0, upd x245_walked x315_s1.toNatClampNeg x315_s2)) (fun j344 => if x283_s0 = 0 then (gd (x231_came x245_3.toNatClampNeg) 10 (j344 (v_inn_doorB (x231_came x245_3.toNatClampNeg).toNatClampNeg))) else (gd (x231_came x245_3.toNatClampNeg) 10 (j344 (v_inn_doorA (x231_came x245_3.toNatClampNeg).toNatClampNeg)))))) (fun j315 => if (x245_walked (x231_came x245_3.toNatClampNeg).toNatClampNeg) = 0 then (if x283_s0 = 0 then (j315 (x231_came x245_3.toNatClampNeg, 2)) else (j315 (x231_came x245_3.toNatClampNeg, 1))) else (j315 (x231_came x245_3.toNatClampNeg, 0))))) (fun j283 => if (v_inn_doorB (x231_came x245_3.toNatClampNeg).toNatClampNeg) = x245_3 then (j283 1) else (j283 0))))))
def BX12_walksMore_106 (j222 : (Int32 × (Nat → Int32)) → Option (Int32 × (Nat → Int32) × (Nat → Int32))) (x76_3 : Int32) (v_walked : Nat → Int32) (v_inn_doorB : Nat → Int32) (v_inn_doorA : Nat → Int32) (rec106 : (Int32 × Int32 × (Nat → Int32)) → Option (Int32 × (Nat → Int32) × (Nat → Int32))) : (Int32 × Int32 × (Nat → Int32)) → Option (Int32 × (Nat → Int32) × (Nat → Int32)) := un3 fun (x106_2 : Int32) (x106_4 : Int32) (x106_came : Nat → Int32) => if 3 ≤ x106_4 then (j222 (x106_2, x106_came)) else (jn (un1 fun (x139_s0 : Int32) => jn (un1 fun (x168_s0 : Int32) => gd x139_s0 8 (jn (un2 fun (x216_2 : Int32) (x216_came : Nat → Int32) => rec106 (x216_2, x106_4 + 1, x216_came)) (fun j216 => if (x106_came x139_s0.toNatClampNeg) = (-1) then (j216 (x106_2, x106_came)) else (gd x168_s0 8 (if (x106_came x168_s0.toNatClampNeg) = (-1) then (gd x76_3 10 (if (v_walked x76_3.toNatClampNeg) = x106_4 then (j216 (x106_2, x106_came)) else (gd x168_s0 8 (j216 (1, upd x106_came x168_s0.toNatClampNeg x76_3))))) else (j216 (x106_2, x106_came))))))) (fun j168 => if x106_4 = 1 then (gd x76_3 10 (j168 (v_inn_doorB x76_3.toNatClampNeg))) else (gd x76_3 10 (j168 (v_inn_doorA x76_3.toNatClampNeg))))) (fun j139 => if x106_4 = 1 then (gd x76_3 10 (j139 (v_inn_doorA x76_3.toNatClampNeg))) else (gd x76_3 10 (j139 (v_inn_doorB x76_3.toNatClampNeg)))))
def BX12_walksMore_76 (v_inn_doors : Int32) (v_inn_how : Nat → Int32) (v_walked : Nat → Int32) (v_inn_doorB : Nat → Int32) (v_inn_doorA : Nat → Int32) (N : Nat) (K228 : (Int32 × (Nat → Int32)) → Option (Int32 × (Nat → Int32) × (Nat → Int32))) (rec76 : (Int32 × Int32 × (Nat → Int32)) → Option (Int32 × (Nat → Int32) × (Nat → Int32))) : (Int32 × Int32 × (Nat → Int32)) → Option (Int32 × (Nat → Int32) × (Nat → Int32)) := un3 fun (x76_2 : Int32) (x76_3 : Int32) (x76_came : Nat → Int32) => if v_inn_doors ≤ x76_3 then (K228 (x76_2, x76_came)) else (gd x76_3 10 (jn (un2 fun (x222_2 : Int32) (x222_came : Nat → Int32) => rec76 (x222_2, x76_3 + 1, x222_came)) (fun j222 => if (v_inn_how x76_3.toNatClampNeg) = 2 then (j222 (x76_2, x76_came)) else (lp (BX12_walksMore_106 j222 x76_3 v_walked v_inn_doorB v_inn_doorA) N (x76_2, 1, x76_came)))))
def BX12_walksMore_58 (p0 : Int32) (v_inn_doors : Int32) (v_inn_how : Nat → Int32) (v_walked : Nat → Int32) (v_inn_doorB : Nat → Int32) (v_inn_doorA : Nat → Int32) (N : Nat) (K231 : ((Nat → Int32)) → Option (Int32 × (Nat → Int32) × (Nat → Int32))) (rec58 : (Int32 × (Nat → Int32)) → Option (Int32 × (Nat → Int32) × (Nat → Int32))) : (Int32 × (Nat → Int32)) → Option (Int32 × (Nat → Int32) × (Nat → Int32)) := un2 fun (x58_2 : Int32) (x58_came : Nat → Int32) => if x58_2 = 0 then (K231 x58_came) else (gd p0 8 (if (x58_came p0.toNatClampNeg) = (-1) then (lp (BX12_walksMore_76 v_inn_doors v_inn_how v_walked v_inn_doorB v_inn_doorA N (un2 fun (x228_2 : Int32) (x228_came : Nat → Int32) => rec58 (x228_2, x228_came))) N (0, 0, x58_came)) else (K231 x58_came)))
def BX12_walksMore_23 (v_inn_sleepers : Int32) (v_inn_bed : Nat → Int32) (K56 : ((Nat → Int32)) → Option (Int32 × (Nat → Int32) × (Nat → Int32))) (rec23 : (Int32 × (Nat → Int32)) → Option (Int32 × (Nat → Int32) × (Nat → Int32))) : (Int32 × (Nat → Int32)) → Option (Int32 × (Nat → Int32) × (Nat → Int32)) := un2 fun (x23_2 : Int32) (x23_came : Nat → Int32) => if v_inn_sleepers ≤ x23_2 then (K56 x23_came) else (gd x23_2 3 (gd (v_inn_bed x23_2.toNatClampNeg) 8 (rec23 (x23_2 + 1, upd x23_came (v_inn_bed x23_2.toNatClampNeg).toNatClampNeg 10))))
def BX12_walksMore_2 (K21 : ((Nat → Int32)) → Option (Int32 × (Nat → Int32) × (Nat → Int32))) (rec2 : (Int32 × (Nat → Int32)) → Option (Int32 × (Nat → Int32) × (Nat → Int32))) : (Int32 × (Nat → Int32)) → Option (Int32 × (Nat → Int32) × (Nat → Int32)) := un2 fun (x2_2 : Int32) (x2_came : Nat → Int32) => if 8 ≤ x2_2 then (K21 x2_came) else (gd x2_2 8 (rec2 (x2_2 + 1, upd x2_came x2_2.toNatClampNeg (-1))))
def fX12_walksMore (N : Nat) (p0 : Int32) (v_inn_doors : Int32) (v_inn_sleepers : Int32) (v_came : Nat → Int32) (v_inn_doorB : Nat → Int32) (v_walked : Nat → Int32) (v_inn_doorA : Nat → Int32) (v_inn_how : Nat → Int32) (v_inn_bed : Nat → Int32) : Option (Int32 × (Nat → Int32) × (Nat → Int32)) := lp (BX12_walksMore_2 (un1 fun (x21_came : Nat → Int32) => lp (BX12_walksMore_23 v_inn_sleepers v_inn_bed (un1 fun (x56_came : Nat → Int32) => lp (BX12_walksMore_58 p0 v_inn_doors v_inn_how v_walked v_inn_doorB v_inn_doorA N (un1 fun (x231_came : Nat → Int32) => gd p0 8 (if (x231_came p0.toNatClampNeg) = (-1) then (some (0, x231_came, v_walked)) else (lp (BX12_walksMore_245 x231_came v_inn_doorB v_inn_doorA) N (p0, v_walked))))) N (1, x56_came))) N (0, x21_came))) N (0, v_came)
set_option maxHeartbeats 4000000 in
set_option maxRecDepth 100000 in
theorem ctX12_walksMore (l : Launch) (E : EN) (h h_inn h_tape h_far h_from h_real h_other h_kept h_set h_w h_book h_noteSort h_whose h_what h_noteIs h_fitting h_dawn h_likes h_walked h_came h_inn_creak h_inn_doorA h_inn_doorB h_inn_how h_inn_lies h_inn_isCold h_inn_falls h_inn_isFull h_inn_isTold h_inn_act h_inn_what h_inn_then h_inn_met h_inn_bed h_inn_dream h_inn_listens h_inn_name h_inn_nameSort h_inn_nameNumber : Nat) (v_thrown : Int32) (v_trouble : Int32) (v_where : Int32) (v_read : Option Nat) (v_taped : Int32) (v_size : Int32) (v_at : Int32) (v_sort : Int32) (v_place : Int32) (v_sign : Int32) (v_number : Int32) (v_fault : Int32) (v_wrongAt : Int32) (v_word : Int64) (v_marks : Int32) (v_notes : Int32) (v_inn_minutes : Int32) (v_inn_rooms : Int32) (v_inn_doors : Int32) (v_inn_things : Int32) (v_inn_dreams : Int32) (v_inn_sleepers : Int32) (v_inn_listeners : Int32) (v_inn_names : Int32) (v_came : Nat → Int32) (v_inn_doorB : Nat → Int32) (v_walked : Nat → Int32) (v_inn_doorA : Nat → Int32) (v_inn_how : Nat → Int32) (v_inn_bed : Nat → Int32) (N : Nat) (p0 : Int32) (z : Int32 × (Nat → Int32) × (Nat → Int32)) (hf : fX12_walksMore N p0 v_inn_doors v_inn_sleepers v_came v_inn_doorB v_walked v_inn_doorA v_inn_how v_inn_bed = some z) : CTi l E yX12_walksMore cX12_walksMore 7 .boolean 0 0 [.ref h, .int p0] (wX12_walksMore E h h_inn h_tape h_far h_from h_real h_other h_kept h_set h_w h_book h_noteSort h_whose h_what h_noteIs h_fitting h_dawn h_likes h_walked h_came h_inn_creak h_inn_doorA h_inn_doorB h_inn_how h_inn_lies h_inn_isCold h_inn_falls h_inn_isFull h_inn_isTold h_inn_act h_inn_what h_inn_then h_inn_met h_inn_bed h_inn_dream h_inn_listens h_inn_name h_inn_nameSort h_inn_nameNumber v_thrown v_trouble v_where v_read v_taped v_size v_at v_sort v_place v_sign v_number v_fault v_wrongAt v_word v_marks v_notes v_inn_minutes v_inn_rooms v_inn_doors v_inn_things v_inn_dreams v_inn_sleepers v_inn_listeners v_inn_names v_came v_inn_doorB v_walked v_inn_doorA v_inn_how v_inn_bed) (z.1) (wX12_walksMore E h h_inn h_tape h_far h_from h_real h_other h_kept h_set h_w h_book h_noteSort h_whose h_what h_noteIs h_fitting h_dawn h_likes h_walked h_came h_inn_creak h_inn_doorA h_inn_doorB h_inn_how h_inn_lies h_inn_isCold h_inn_falls h_inn_isFull h_inn_isTold h_inn_act h_inn_what h_inn_then h_inn_met h_inn_bed h_inn_dream h_inn_listens h_inn_name h_inn_nameSort h_inn_nameNumber v_thrown v_trouble v_where v_read v_taped v_size v_at v_sort v_place v_sign v_number v_fault v_wrongAt v_word v_marks v_notes v_inn_minutes v_inn_rooms v_inn_doors v_inn_things v_inn_dreams v_inn_sleepers v_inn_listeners v_inn_names z.2.1 v_inn_doorB z.2.2 v_inn_doorA v_inn_how v_inn_bed) := by
  intro sz
  refine ct_body (by decide) (Nat.le_of_ble_eq_true rfl) ?_
  intro p e s m args below meth c A ls hAe C hr hin hP hD hS hl
  have C : CX p s m args meth c cX12_walksMore RX12 7 E A := C
  have hl : lv_has ls 7 [(0, .ref h), (1, .int p0)] := hl
  have hx := C.1
  have hb := C.2.1
  rw [hAe]
  clear hAe
  obtain ⟨Q, hQ⟩ : ∃ Q, Q = MQ below (Qi E A (z.1) (wX12_walksMore E h h_inn h_tape h_far h_from h_real h_other h_kept h_set h_w h_book h_noteSort h_whose h_what h_noteIs h_fitting h_dawn h_likes h_walked h_came h_inn_creak h_inn_doorA h_inn_doorB h_inn_how h_inn_lies h_inn_isCold h_inn_falls h_inn_isFull h_inn_isTold h_inn_act h_inn_what h_inn_then h_inn_met h_inn_bed h_inn_dream h_inn_listens h_inn_name h_inn_nameSort h_inn_nameNumber v_thrown v_trouble v_where v_read v_taped v_size v_at v_sort v_place v_sign v_number v_fault v_wrongAt v_word v_marks v_notes v_inn_minutes v_inn_rooms v_inn_doors v_inn_things v_inn_dreams v_inn_sleepers v_inn_listeners v_inn_names z.2.1 v_inn_doorB z.2.2 v_inn_doorA v_inn_how v_inn_bed)) args s 0 0 A := ⟨_, rfl⟩
  rw [← hQ]
  unfold fX12_walksMore at hf
  refine lv_iconst (pc := 0) (v := 0) hx hb dX12_walksMore_0 (by decide) ?_
  refine lv_istore_n (pc := 1) (lv' := [(2, .int 0), (0, .ref h), (1, .int p0)]) hx hb dX12_walksMore_1 rfl hl (by decide) rfl (fun ls hl => ?_)
  refine lpK hf (fun K21 eK21 hf => ?_)
  have hK21 : ∀ (x21_came : Nat → Int32) , K21 x21_came = some z → AT p l e (rmOf 0 0) s m args below meth c E A Q 0 0 7 [(0, .ref h), (1, .int p0)] (wX12_walksMore E h h_inn h_tape h_far h_from h_real h_other h_kept h_set h_w h_book h_noteSort h_whose h_what h_noteIs h_fitting h_dawn h_likes h_walked h_came h_inn_creak h_inn_doorA h_inn_doorB h_inn_how h_inn_lies h_inn_isCold h_inn_falls h_inn_isFull h_inn_isTold h_inn_act h_inn_what h_inn_then h_inn_met h_inn_bed h_inn_dream h_inn_listens h_inn_name h_inn_nameSort h_inn_nameNumber v_thrown v_trouble v_where v_read v_taped v_size v_at v_sort v_place v_sign v_number v_fault v_wrongAt v_word v_marks v_notes v_inn_minutes v_inn_rooms v_inn_doors v_inn_things v_inn_dreams v_inn_sleepers v_inn_listeners v_inn_names x21_came v_inn_doorB v_walked v_inn_doorA v_inn_how v_inn_bed) 21 [] := by
    intro x21_came hf H locs ls hl hP hD hS
    rw [eK21] at hf
    replace hf := un1_s hf
    refine lv_iconst (pc := 21) (v := 0) hx hb dX12_walksMore_21 (by decide) ?_
    refine lv_istore_n (pc := 22) (lv' := [(2, .int 0), (0, .ref h), (1, .int p0)]) hx hb dX12_walksMore_22 rfl hl (by decide) rfl (fun ls hl => ?_)
    refine lpK hf (fun K56 eK56 hf => ?_)
    have hK56 : ∀ (x56_came : Nat → Int32) , K56 x56_came = some z → AT p l e (rmOf 0 0) s m args below meth c E A Q 0 0 7 [(0, .ref h), (1, .int p0)] (wX12_walksMore E h h_inn h_tape h_far h_from h_real h_other h_kept h_set h_w h_book h_noteSort h_whose h_what h_noteIs h_fitting h_dawn h_likes h_walked h_came h_inn_creak h_inn_doorA h_inn_doorB h_inn_how h_inn_lies h_inn_isCold h_inn_falls h_inn_isFull h_inn_isTold h_inn_act h_inn_what h_inn_then h_inn_met h_inn_bed h_inn_dream h_inn_listens h_inn_name h_inn_nameSort h_inn_nameNumber v_thrown v_trouble v_where v_read v_taped v_size v_at v_sort v_place v_sign v_number v_fault v_wrongAt v_word v_marks v_notes v_inn_minutes v_inn_rooms v_inn_doors v_inn_things v_inn_dreams v_inn_sleepers v_inn_listeners v_inn_names x56_came v_inn_doorB v_walked v_inn_doorA v_inn_how v_inn_bed) 56 [] := by
      intro x56_came hf H locs ls hl hP hD hS
      rw [eK56] at hf
      replace hf := un1_s hf
      refine lv_iconst (pc := 56) (v := 1) hx hb dX12_walksMore_56 (by decide) ?_
      refine lv_istore_n (pc := 57) (lv' := [(2, .int 1), (0, .ref h), (1, .int p0)]) hx hb dX12_walksMore_57 rfl hl (by decide) rfl (fun ls hl => ?_)
      refine lpK hf (fun K231 eK231 hf => ?_)
      have hK231 : ∀ (x231_came : Nat → Int32) , K231 x231_came = some z → AT p l e (rmOf 0 0) s m args below meth c E A Q 0 0 7 [(0, .ref h), (1, .int p0)] (wX12_walksMore E h h_inn h_tape h_far h_from h_real h_other h_kept h_set h_w h_book h_noteSort h_whose h_what h_noteIs h_fitting h_dawn h_likes h_walked h_came h_inn_creak h_inn_doorA h_inn_doorB h_inn_how h_inn_lies h_inn_isCold h_inn_falls h_inn_isFull h_inn_isTold h_inn_act h_inn_what h_inn_then h_inn_met h_inn_bed h_inn_dream h_inn_listens h_inn_name h_inn_nameSort h_inn_nameNumber v_thrown v_trouble v_where v_read v_taped v_size v_at v_sort v_place v_sign v_number v_fault v_wrongAt v_word v_marks v_notes v_inn_minutes v_inn_rooms v_inn_doors v_inn_things v_inn_dreams v_inn_sleepers v_inn_listeners v_inn_names x231_came v_inn_doorB v_walked v_inn_doorA v_inn_how v_inn_bed) 231 [] := by
        intro x231_came hf H locs ls hl hP hD hS
        rw [eK231] at hf
        replace hf := un1_s hf
        refine lv_aload_n (pc := 231) hx hb dX12_walksMore_231 rfl (lv_at hl 0 rfl) ?_
        refine r_get (pc := 232) C hP 0 rfl fl_X12_68 rfl dX12_walksMore_232 ?_
        refine lv_iload_n (pc := 235) hx hb dX12_walksMore_235 rfl (lv_at hl 1 rfl) ?_
        obtain ⟨hi_236, hf⟩ := gd_s hf
        refine r_iald (pc := 236) C hP 2 rfl hi_236 dX12_walksMore_236 ?_
        refine lv_iconst (pc := 237) (v := (-1)) hx hb dX12_walksMore_237 (by decide) ?_
        refine lv_icmp_ne (pc := 238) (tgt := 243) hx hb dX12_walksMore_238 (by decide) (fun c_238 => ?_) (fun c_238 => ?_)
        · replace hf := it_f c_238 hf
          refine lv_iload_n (pc := 243) hx hb dX12_walksMore_243 rfl (lv_at hl 1 rfl) ?_
          refine lv_istore_n (pc := 244) (lv' := [(3, .int p0), (0, .ref h), (1, .int p0)]) hx hb dX12_walksMore_244 rfl hl (by decide) rfl (fun ls hl => ?_)
          have key245 : ∀ (n : Nat) (x245_3 : Int32) (x245_walked : Nat → Int32) , lp (BX12_walksMore_245 x231_came v_inn_doorB v_inn_doorA) n (x245_3, x245_walked) = some z → AT p l e (rmOf 0 0) s m args below meth c E A Q 0 0 7 [(0, .ref h), (3, .int x245_3)] (wX12_walksMore E h h_inn h_tape h_far h_from h_real h_other h_kept h_set h_w h_book h_noteSort h_whose h_what h_noteIs h_fitting h_dawn h_likes h_walked h_came h_inn_creak h_inn_doorA h_inn_doorB h_inn_how h_inn_lies h_inn_isCold h_inn_falls h_inn_isFull h_inn_isTold h_inn_act h_inn_what h_inn_then h_inn_met h_inn_bed h_inn_dream h_inn_listens h_inn_name h_inn_nameSort h_inn_nameNumber v_thrown v_trouble v_where v_read v_taped v_size v_at v_sort v_place v_sign v_number v_fault v_wrongAt v_word v_marks v_notes v_inn_minutes v_inn_rooms v_inn_doors v_inn_things v_inn_dreams v_inn_sleepers v_inn_listeners v_inn_names x231_came v_inn_doorB x245_walked v_inn_doorA v_inn_how v_inn_bed) 245 [] := by
            intro n
            induction n with
            | zero => intro x245_3 x245_walked hf; exact (lp_0 hf).elim
            | succ n ih245 =>
              intro x245_3 x245_walked hf H locs ls hl hP hD hS
              replace hf := lp_s hf
              generalize lp (BX12_walksMore_245 x231_came v_inn_doorB v_inn_doorA) n = rec245 at ih245 hf
              unfold BX12_walksMore_245 at hf
              replace hf := un2_s hf
              refine lv_aload_n (pc := 245) hx hb dX12_walksMore_245 rfl (lv_at hl 0 rfl) ?_
              refine r_get (pc := 246) C hP 0 rfl fl_X12_68 rfl dX12_walksMore_246 ?_
              refine lv_iload_n (pc := 249) hx hb dX12_walksMore_249 rfl (lv_at hl 1 rfl) ?_
              obtain ⟨hi_250, hf⟩ := gd_s hf
              refine r_iald (pc := 250) C hP 2 rfl hi_250 dX12_walksMore_250 ?_
              refine lv_bipush (pc := 251) (v := 10) hx hb dX12_walksMore_251 (by decide) ?_
              refine lv_icmp_eq (pc := 253) (tgt := 348) hx hb dX12_walksMore_253 (by decide) (fun c_253 => ?_) (fun c_253 => ?_)
              · replace hf := it_t c_253 hf
                refine lv_iconst (pc := 348) (v := 1) hx hb dX12_walksMore_348 (by decide) ?_
                cases hf
                rw [hQ]
                exact r_zret C hr hP hD hS (Or.inr rfl) rfl dX12_walksMore_349
              · replace hf := it_f c_253 hf
                refine lv_aload_n (pc := 256) hx hb dX12_walksMore_256 rfl (lv_at hl 0 rfl) ?_
                refine r_get (pc := 257) C hP 0 rfl fl_X12_68 rfl dX12_walksMore_257 ?_
                refine lv_iload_n (pc := 260) hx hb dX12_walksMore_260 rfl (lv_at hl 1 rfl) ?_
                obtain ⟨hi_261, hf⟩ := gd_s hf
                refine r_iald (pc := 261) C hP 2 rfl hi_261 dX12_walksMore_261 ?_
                refine lv_istore (pc := 262) (lv' := [(4, .int (x231_came x245_3.toNatClampNeg)), (0, .ref h), (3, .int x245_3)]) hx hb dX12_walksMore_262 hl (by decide) rfl (fun ls hl => ?_)
                refine lv_aload_n (pc := 264) hx hb dX12_walksMore_264 rfl (lv_at hl 1 rfl) ?_
                refine r_get (pc := 265) C hP 0 rfl fl_X12_358 rfl dX12_walksMore_265 ?_
                refine r_get (pc := 268) C hP 1 rfl fl_X12_307 rfl dX12_walksMore_268 ?_
                refine lv_iload (pc := 271) hx hb dX12_walksMore_271 (lv_at hl 0 rfl) ?_
                obtain ⟨hi_273, hf⟩ := gd_s hf
                refine r_iald (pc := 273) C hP 3 rfl hi_273 dX12_walksMore_273 ?_
                refine lv_iload_n (pc := 274) hx hb dX12_walksMore_274 rfl (lv_at hl 2 rfl) ?_
                refine jnK hf (fun j283 ej283 hf => ?_)
                have hj283 : ∀ (x283_s0 : Int32) , j283 x283_s0 = some z → AT p l e (rmOf 0 0) s m args below meth c E A Q 0 0 7 [(0, .ref h), (4, .int (x231_came x245_3.toNatClampNeg))] (wX12_walksMore E h h_inn h_tape h_far h_from h_real h_other h_kept h_set h_w h_book h_noteSort h_whose h_what h_noteIs h_fitting h_dawn h_likes h_walked h_came h_inn_creak h_inn_doorA h_inn_doorB h_inn_how h_inn_lies h_inn_isCold h_inn_falls h_inn_isFull h_inn_isTold h_inn_act h_inn_what h_inn_then h_inn_met h_inn_bed h_inn_dream h_inn_listens h_inn_name h_inn_nameSort h_inn_nameNumber v_thrown v_trouble v_where v_read v_taped v_size v_at v_sort v_place v_sign v_number v_fault v_wrongAt v_word v_marks v_notes v_inn_minutes v_inn_rooms v_inn_doors v_inn_things v_inn_dreams v_inn_sleepers v_inn_listeners v_inn_names x231_came v_inn_doorB x245_walked v_inn_doorA v_inn_how v_inn_bed) 283 [.int x283_s0] := by
                  intro x283_s0 hf H locs ls hl hP hD hS
                  rw [ej283] at hf
                  replace hf := un1_s hf
                  refine lv_istore (pc := 283) (lv' := [(5, .int x283_s0), (0, .ref h), (4, .int (x231_came x245_3.toNatClampNeg))]) hx hb dX12_walksMore_283 hl (by decide) rfl (fun ls hl => ?_)
                  refine lv_aload_n (pc := 285) hx hb dX12_walksMore_285 rfl (lv_at hl 1 rfl) ?_
                  refine r_get (pc := 286) C hP 0 rfl fl_X12_65 rfl dX12_walksMore_286 ?_
                  refine lv_iload (pc := 289) hx hb dX12_walksMore_289 (lv_at hl 2 rfl) ?_
                  refine lv_aload_n (pc := 291) hx hb dX12_walksMore_291 rfl (lv_at hl 1 rfl) ?_
                  refine r_get (pc := 292) C hP 0 rfl fl_X12_65 rfl dX12_walksMore_292 ?_
                  refine lv_iload (pc := 295) hx hb dX12_walksMore_295 (lv_at hl 2 rfl) ?_
                  obtain ⟨hi_297, hf⟩ := gd_s hf
                  refine r_iald (pc := 297) C hP 4 rfl hi_297 dX12_walksMore_297 ?_
                  refine jnK hf (fun j315 ej315 hf => ?_)
                  have hj315 : ∀ (x315_s1 : Int32) (x315_s2 : Int32) , j315 (x315_s1, x315_s2) = some z → AT p l e (rmOf 0 0) s m args below meth c E A Q 0 0 7 [(0, .ref h), (4, .int (x231_came x245_3.toNatClampNeg)), (5, .int x283_s0)] (wX12_walksMore E h h_inn h_tape h_far h_from h_real h_other h_kept h_set h_w h_book h_noteSort h_whose h_what h_noteIs h_fitting h_dawn h_likes h_walked h_came h_inn_creak h_inn_doorA h_inn_doorB h_inn_how h_inn_lies h_inn_isCold h_inn_falls h_inn_isFull h_inn_isTold h_inn_act h_inn_what h_inn_then h_inn_met h_inn_bed h_inn_dream h_inn_listens h_inn_name h_inn_nameSort h_inn_nameNumber v_thrown v_trouble v_where v_read v_taped v_size v_at v_sort v_place v_sign v_number v_fault v_wrongAt v_word v_marks v_notes v_inn_minutes v_inn_rooms v_inn_doors v_inn_things v_inn_dreams v_inn_sleepers v_inn_listeners v_inn_names x231_came v_inn_doorB x245_walked v_inn_doorA v_inn_how v_inn_bed) 315 [.int x315_s2, .int x315_s1, .ref h_walked] := by
                    intro x315_s1 x315_s2 hf H locs ls hl hP hD hS
                    rw [ej315] at hf
                    replace hf := un2_s hf
                    obtain ⟨hi_315, hf⟩ := gd_s hf
                    refine r_iast (pc := 315) (ws' := (wX12_walksMore E h h_inn h_tape h_far h_from h_real h_other h_kept h_set h_w h_book h_noteSort h_whose h_what h_noteIs h_fitting h_dawn h_likes h_walked h_came h_inn_creak h_inn_doorA h_inn_doorB h_inn_how h_inn_lies h_inn_isCold h_inn_falls h_inn_isFull h_inn_isTold h_inn_act h_inn_what h_inn_then h_inn_met h_inn_bed h_inn_dream h_inn_listens h_inn_name h_inn_nameSort h_inn_nameNumber v_thrown v_trouble v_where v_read v_taped v_size v_at v_sort v_place v_sign v_number v_fault v_wrongAt v_word v_marks v_notes v_inn_minutes v_inn_rooms v_inn_doors v_inn_things v_inn_dreams v_inn_sleepers v_inn_listeners v_inn_names x231_came v_inn_doorB (upd x245_walked x315_s1.toNatClampNeg x315_s2) v_inn_doorA v_inn_how v_inn_bed)) C hP hD hS 4 rfl hi_315 rfl dX12_walksMore_315 ?_
                    clear hP hD hS; intro H locs hP hD hS
                    refine lv_iload (pc := 316) hx hb dX12_walksMore_316 (lv_at hl 2 rfl) ?_
                    refine jnK hf (fun j344 ej344 hf => ?_)
                    have hj344 : ∀ (x344_s0 : Int32) , j344 x344_s0 = some z → AT p l e (rmOf 0 0) s m args below meth c E A Q 0 0 7 [(0, .ref h)] (wX12_walksMore E h h_inn h_tape h_far h_from h_real h_other h_kept h_set h_w h_book h_noteSort h_whose h_what h_noteIs h_fitting h_dawn h_likes h_walked h_came h_inn_creak h_inn_doorA h_inn_doorB h_inn_how h_inn_lies h_inn_isCold h_inn_falls h_inn_isFull h_inn_isTold h_inn_act h_inn_what h_inn_then h_inn_met h_inn_bed h_inn_dream h_inn_listens h_inn_name h_inn_nameSort h_inn_nameNumber v_thrown v_trouble v_where v_read v_taped v_size v_at v_sort v_place v_sign v_number v_fault v_wrongAt v_word v_marks v_notes v_inn_minutes v_inn_rooms v_inn_doors v_inn_things v_inn_dreams v_inn_sleepers v_inn_listeners v_inn_names x231_came v_inn_doorB (upd x245_walked x315_s1.toNatClampNeg x315_s2) v_inn_doorA v_inn_how v_inn_bed) 344 [.int x344_s0] := by
                      intro x344_s0 hf H locs ls hl hP hD hS
                      rw [ej344] at hf
                      replace hf := un1_s hf
                      refine lv_istore_n (pc := 344) (lv' := [(3, .int x344_s0), (0, .ref h)]) hx hb dX12_walksMore_344 rfl hl (by decide) rfl (fun ls hl => ?_)
                      refine lv_goto (pc := 345) (tgt := 245) hx hb dX12_walksMore_345 (by decide) ?_
                      exact ih245 x344_s0 (upd x245_walked x315_s1.toNatClampNeg x315_s2) hf _ _ _ (lv_sub hl [1, 0] rfl) hP hD hS
                    clear ej344
                    refine lv_if_eq (pc := 318) (tgt := 334) hx hb dX12_walksMore_318 (by decide) (fun c_318 => ?_) (fun c_318 => ?_)
                    · replace hf := it_t c_318 hf
                      refine lv_aload_n (pc := 334) hx hb dX12_walksMore_334 rfl (lv_at hl 0 rfl) ?_
                      refine r_get (pc := 335) C hP 0 rfl fl_X12_358 rfl dX12_walksMore_335 ?_
                      refine r_get (pc := 338) C hP 1 rfl fl_X12_307 rfl dX12_walksMore_338 ?_
                      refine lv_iload (pc := 341) hx hb dX12_walksMore_341 (lv_at hl 1 rfl) ?_
                      obtain ⟨hi_343, hf⟩ := gd_s hf
                      refine r_iald (pc := 343) C hP 3 rfl hi_343 dX12_walksMore_343 ?_
                      exact hj344 (v_inn_doorB (x231_came x245_3.toNatClampNeg).toNatClampNeg) hf _ _ _ (lv_sub hl [0] rfl) hP hD hS
                    · replace hf := it_f c_318 hf
                      refine lv_aload_n (pc := 321) hx hb dX12_walksMore_321 rfl (lv_at hl 0 rfl) ?_
                      refine r_get (pc := 322) C hP 0 rfl fl_X12_358 rfl dX12_walksMore_322 ?_
                      refine r_get (pc := 325) C hP 1 rfl fl_X12_304 rfl dX12_walksMore_325 ?_
                      refine lv_iload (pc := 328) hx hb dX12_walksMore_328 (lv_at hl 1 rfl) ?_
                      obtain ⟨hi_330, hf⟩ := gd_s hf
                      refine r_iald (pc := 330) C hP 5 rfl hi_330 dX12_walksMore_330 ?_
                      refine lv_goto (pc := 331) (tgt := 344) hx hb dX12_walksMore_331 (by decide) ?_
                      exact hj344 (v_inn_doorA (x231_came x245_3.toNatClampNeg).toNatClampNeg) hf _ _ _ (lv_sub hl [0] rfl) hP hD hS
                  clear ej315
                  refine lv_if_eq (pc := 298) (tgt := 305) hx hb dX12_walksMore_298 (by decide) (fun c_298 => ?_) (fun c_298 => ?_)
                  · replace hf := it_t c_298 hf
                    refine lv_iload (pc := 305) hx hb dX12_walksMore_305 (lv_at hl 0 rfl) ?_
                    refine lv_if_eq (pc := 307) (tgt := 314) hx hb dX12_walksMore_307 (by decide) (fun c_307 => ?_) (fun c_307 => ?_)
                    · replace hf := it_t c_307 hf
                      refine lv_iconst (pc := 314) (v := 2) hx hb dX12_walksMore_314 (by decide) ?_
                      exact hj315 (x231_came x245_3.toNatClampNeg) 2 hf _ _ _ (lv_sub hl [1, 2, 0] rfl) hP hD hS
                    · replace hf := it_f c_307 hf
                      refine lv_iconst (pc := 310) (v := 1) hx hb dX12_walksMore_310 (by decide) ?_
                      refine lv_goto (pc := 311) (tgt := 315) hx hb dX12_walksMore_311 (by decide) ?_
                      exact hj315 (x231_came x245_3.toNatClampNeg) 1 hf _ _ _ (lv_sub hl [1, 2, 0] rfl) hP hD hS
                  · replace hf := it_f c_298 hf
                    refine lv_iconst (pc := 301) (v := 0) hx hb dX12_walksMore_301 (by decide) ?_
                    refine lv_goto (pc := 302) (tgt := 315) hx hb dX12_walksMore_302 (by decide) ?_
                    exact hj315 (x231_came x245_3.toNatClampNeg) 0 hf _ _ _ (lv_sub hl [1, 2, 0] rfl) hP hD hS
                clear ej283
                refine lv_icmp_ne (pc := 275) (tgt := 282) hx hb dX12_walksMore_275 (by decide) (fun c_275 => ?_) (fun c_275 => ?_)
                · replace hf := it_f c_275 hf
                  refine lv_iconst (pc := 282) (v := 0) hx hb dX12_walksMore_282 (by decide) ?_
                  exact hj283 0 hf _ _ _ (lv_sub hl [1, 0] rfl) hP hD hS
                · replace hf := it_t c_275 hf
                  refine lv_iconst (pc := 278) (v := 1) hx hb dX12_walksMore_278 (by decide) ?_
                  refine lv_goto (pc := 279) (tgt := 283) hx hb dX12_walksMore_279 (by decide) ?_
                  exact hj283 1 hf _ _ _ (lv_sub hl [1, 0] rfl) hP hD hS
          exact key245 _ p0 v_walked hf _ _ _ (lv_sub hl [1, 0] rfl) hP hD hS
        · replace hf := it_t c_238 hf
          refine lv_iconst (pc := 241) (v := 0) hx hb dX12_walksMore_241 (by decide) ?_
          cases hf
          rw [hQ]
          exact r_zret C hr hP hD hS (Or.inl rfl) rfl dX12_walksMore_242
      clear eK231
      have key58 : ∀ (n : Nat) (x58_2 : Int32) (x58_came : Nat → Int32) , lp (BX12_walksMore_58 p0 v_inn_doors v_inn_how v_walked v_inn_doorB v_inn_doorA N K231) n (x58_2, x58_came) = some z → AT p l e (rmOf 0 0) s m args below meth c E A Q 0 0 7 [(0, .ref h), (1, .int p0), (2, .int x58_2)] (wX12_walksMore E h h_inn h_tape h_far h_from h_real h_other h_kept h_set h_w h_book h_noteSort h_whose h_what h_noteIs h_fitting h_dawn h_likes h_walked h_came h_inn_creak h_inn_doorA h_inn_doorB h_inn_how h_inn_lies h_inn_isCold h_inn_falls h_inn_isFull h_inn_isTold h_inn_act h_inn_what h_inn_then h_inn_met h_inn_bed h_inn_dream h_inn_listens h_inn_name h_inn_nameSort h_inn_nameNumber v_thrown v_trouble v_where v_read v_taped v_size v_at v_sort v_place v_sign v_number v_fault v_wrongAt v_word v_marks v_notes v_inn_minutes v_inn_rooms v_inn_doors v_inn_things v_inn_dreams v_inn_sleepers v_inn_listeners v_inn_names x58_came v_inn_doorB v_walked v_inn_doorA v_inn_how v_inn_bed) 58 [] := by
        intro n
        induction n with
        | zero => intro x58_2 x58_came hf; exact (lp_0 hf).elim
        | succ n ih58 =>
          intro x58_2 x58_came hf H locs ls hl hP hD hS
          replace hf := lp_s hf
          generalize lp (BX12_walksMore_58 p0 v_inn_doors v_inn_how v_walked v_inn_doorB v_inn_doorA N K231) n = rec58 at ih58 hf
          unfold BX12_walksMore_58 at hf
          replace hf := un2_s hf
          refine lv_iload_n (pc := 58) hx hb dX12_walksMore_58 rfl (lv_at hl 2 rfl) ?_
          refine lv_if_eq (pc := 59) (tgt := 231) hx hb dX12_walksMore_59 (by decide) (fun c_59 => ?_) (fun c_59 => ?_)
          · replace hf := it_t c_59 hf
            exact hK231 x58_came hf _ _ _ (lv_sub hl [0, 1] rfl) hP hD hS
          · replace hf := it_f c_59 hf
            refine lv_aload_n (pc := 62) hx hb dX12_walksMore_62 rfl (lv_at hl 0 rfl) ?_
            refine r_get (pc := 63) C hP 0 rfl fl_X12_68 rfl dX12_walksMore_63 ?_
            refine lv_iload_n (pc := 66) hx hb dX12_walksMore_66 rfl (lv_at hl 1 rfl) ?_
            obtain ⟨hi_67, hf⟩ := gd_s hf
            refine r_iald (pc := 67) C hP 2 rfl hi_67 dX12_walksMore_67 ?_
            refine lv_iconst (pc := 68) (v := (-1)) hx hb dX12_walksMore_68 (by decide) ?_
            refine lv_icmp_ne (pc := 69) (tgt := 231) hx hb dX12_walksMore_69 (by decide) (fun c_69 => ?_) (fun c_69 => ?_)
            · replace hf := it_f c_69 hf
              exact hK231 x58_came hf _ _ _ (lv_sub hl [0, 1] rfl) hP hD hS
            · replace hf := it_t c_69 hf
              refine lv_iconst (pc := 72) (v := 0) hx hb dX12_walksMore_72 (by decide) ?_
              refine lv_istore_n (pc := 73) (lv' := [(2, .int 0), (0, .ref h), (1, .int p0)]) hx hb dX12_walksMore_73 rfl hl (by decide) rfl (fun ls hl => ?_)
              refine lv_iconst (pc := 74) (v := 0) hx hb dX12_walksMore_74 (by decide) ?_
              refine lv_istore_n (pc := 75) (lv' := [(3, .int 0), (2, .int 0), (0, .ref h), (1, .int p0)]) hx hb dX12_walksMore_75 rfl hl (by decide) rfl (fun ls hl => ?_)
              refine lpK hf (fun K228 eK228 hf => ?_)
              have hK228 : ∀ (x228_2 : Int32) (x228_came : Nat → Int32) , K228 (x228_2, x228_came) = some z → AT p l e (rmOf 0 0) s m args below meth c E A Q 0 0 7 [(0, .ref h), (1, .int p0), (2, .int x228_2)] (wX12_walksMore E h h_inn h_tape h_far h_from h_real h_other h_kept h_set h_w h_book h_noteSort h_whose h_what h_noteIs h_fitting h_dawn h_likes h_walked h_came h_inn_creak h_inn_doorA h_inn_doorB h_inn_how h_inn_lies h_inn_isCold h_inn_falls h_inn_isFull h_inn_isTold h_inn_act h_inn_what h_inn_then h_inn_met h_inn_bed h_inn_dream h_inn_listens h_inn_name h_inn_nameSort h_inn_nameNumber v_thrown v_trouble v_where v_read v_taped v_size v_at v_sort v_place v_sign v_number v_fault v_wrongAt v_word v_marks v_notes v_inn_minutes v_inn_rooms v_inn_doors v_inn_things v_inn_dreams v_inn_sleepers v_inn_listeners v_inn_names x228_came v_inn_doorB v_walked v_inn_doorA v_inn_how v_inn_bed) 228 [] := by
                intro x228_2 x228_came hf H locs ls hl hP hD hS
                rw [eK228] at hf
                replace hf := un2_s hf
                refine lv_goto (pc := 228) (tgt := 58) hx hb dX12_walksMore_228 (by decide) ?_
                exact ih58 x228_2 x228_came hf _ _ _ (lv_sub hl [0, 1, 2] rfl) hP hD hS
              clear eK228
              have key76 : ∀ (n : Nat) (x76_2 : Int32) (x76_3 : Int32) (x76_came : Nat → Int32) , lp (BX12_walksMore_76 v_inn_doors v_inn_how v_walked v_inn_doorB v_inn_doorA N K228) n (x76_2, x76_3, x76_came) = some z → AT p l e (rmOf 0 0) s m args below meth c E A Q 0 0 7 [(0, .ref h), (1, .int p0), (2, .int x76_2), (3, .int x76_3)] (wX12_walksMore E h h_inn h_tape h_far h_from h_real h_other h_kept h_set h_w h_book h_noteSort h_whose h_what h_noteIs h_fitting h_dawn h_likes h_walked h_came h_inn_creak h_inn_doorA h_inn_doorB h_inn_how h_inn_lies h_inn_isCold h_inn_falls h_inn_isFull h_inn_isTold h_inn_act h_inn_what h_inn_then h_inn_met h_inn_bed h_inn_dream h_inn_listens h_inn_name h_inn_nameSort h_inn_nameNumber v_thrown v_trouble v_where v_read v_taped v_size v_at v_sort v_place v_sign v_number v_fault v_wrongAt v_word v_marks v_notes v_inn_minutes v_inn_rooms v_inn_doors v_inn_things v_inn_dreams v_inn_sleepers v_inn_listeners v_inn_names x76_came v_inn_doorB v_walked v_inn_doorA v_inn_how v_inn_bed) 76 [] := by
                intro n
                induction n with
                | zero => intro x76_2 x76_3 x76_came hf; exact (lp_0 hf).elim
                | succ n ih76 =>
                  intro x76_2 x76_3 x76_came hf H locs ls hl hP hD hS
                  replace hf := lp_s hf
                  generalize lp (BX12_walksMore_76 v_inn_doors v_inn_how v_walked v_inn_doorB v_inn_doorA N K228) n = rec76 at ih76 hf
                  unfold BX12_walksMore_76 at hf
                  replace hf := un3_s hf
                  refine lv_iload_n (pc := 76) hx hb dX12_walksMore_76 rfl (lv_at hl 3 rfl) ?_
                  refine lv_aload_n (pc := 77) hx hb dX12_walksMore_77 rfl (lv_at hl 0 rfl) ?_
                  refine r_get (pc := 78) C hP 0 rfl fl_X12_358 rfl dX12_walksMore_78 ?_
                  refine r_get (pc := 81) C hP 1 rfl fl_X12_292 rfl dX12_walksMore_81 ?_
                  refine lv_icmp_ge (pc := 84) (tgt := 228) hx hb dX12_walksMore_84 (by decide) (fun c_84 => ?_) (fun c_84 => ?_)
                  · replace hf := it_t c_84 hf
                    exact hK228 x76_2 x76_came hf _ _ _ (lv_sub hl [0, 1, 2] rfl) hP hD hS
                  · replace hf := it_f c_84 hf
                    refine lv_aload_n (pc := 87) hx hb dX12_walksMore_87 rfl (lv_at hl 0 rfl) ?_
                    refine r_get (pc := 88) C hP 0 rfl fl_X12_358 rfl dX12_walksMore_88 ?_
                    refine r_get (pc := 91) C hP 1 rfl fl_X12_310 rfl dX12_walksMore_91 ?_
                    refine lv_iload_n (pc := 94) hx hb dX12_walksMore_94 rfl (lv_at hl 3 rfl) ?_
                    obtain ⟨hi_95, hf⟩ := gd_s hf
                    refine r_iald (pc := 95) C hP 6 rfl hi_95 dX12_walksMore_95 ?_
                    refine lv_iconst (pc := 96) (v := 2) hx hb dX12_walksMore_96 (by decide) ?_
                    refine jnK hf (fun j222 ej222 hf => ?_)
                    have hj222 : ∀ (x222_2 : Int32) (x222_came : Nat → Int32) , j222 (x222_2, x222_came) = some z → AT p l e (rmOf 0 0) s m args below meth c E A Q 0 0 7 [(0, .ref h), (1, .int p0), (2, .int x222_2), (3, .int x76_3)] (wX12_walksMore E h h_inn h_tape h_far h_from h_real h_other h_kept h_set h_w h_book h_noteSort h_whose h_what h_noteIs h_fitting h_dawn h_likes h_walked h_came h_inn_creak h_inn_doorA h_inn_doorB h_inn_how h_inn_lies h_inn_isCold h_inn_falls h_inn_isFull h_inn_isTold h_inn_act h_inn_what h_inn_then h_inn_met h_inn_bed h_inn_dream h_inn_listens h_inn_name h_inn_nameSort h_inn_nameNumber v_thrown v_trouble v_where v_read v_taped v_size v_at v_sort v_place v_sign v_number v_fault v_wrongAt v_word v_marks v_notes v_inn_minutes v_inn_rooms v_inn_doors v_inn_things v_inn_dreams v_inn_sleepers v_inn_listeners v_inn_names x222_came v_inn_doorB v_walked v_inn_doorA v_inn_how v_inn_bed) 222 [] := by
                      intro x222_2 x222_came hf H locs ls hl hP hD hS
                      rw [ej222] at hf
                      replace hf := un2_s hf
                      refine lv_iinc (pc := 222) (v := x76_3 + 1) (lv' := [(3, .int (x76_3 + 1)), (0, .ref h), (1, .int p0), (2, .int x222_2)]) hx hb dX12_walksMore_222 hl (k := 3) rfl rfl (by decide) rfl (fun ls hl => ?_)
                      refine lv_goto (pc := 225) (tgt := 76) hx hb dX12_walksMore_225 (by decide) ?_
                      exact ih76 x222_2 (x76_3 + 1) x222_came hf _ _ _ (lv_sub hl [1, 2, 3, 0] rfl) hP hD hS
                    clear ej222
                    refine lv_icmp_ne (pc := 97) (tgt := 103) hx hb dX12_walksMore_97 (by decide) (fun c_97 => ?_) (fun c_97 => ?_)
                    · replace hf := it_f c_97 hf
                      refine lv_iconst (pc := 103) (v := 1) hx hb dX12_walksMore_103 (by decide) ?_
                      refine lv_istore (pc := 104) (lv' := [(4, .int 1), (0, .ref h), (1, .int p0), (2, .int x76_2), (3, .int x76_3)]) hx hb dX12_walksMore_104 hl (by decide) rfl (fun ls hl => ?_)
                      have key106 : ∀ (n : Nat) (x106_2 : Int32) (x106_4 : Int32) (x106_came : Nat → Int32) , lp (BX12_walksMore_106 j222 x76_3 v_walked v_inn_doorB v_inn_doorA) n (x106_2, x106_4, x106_came) = some z → AT p l e (rmOf 0 0) s m args below meth c E A Q 0 0 7 [(0, .ref h), (1, .int p0), (2, .int x106_2), (3, .int x76_3), (4, .int x106_4)] (wX12_walksMore E h h_inn h_tape h_far h_from h_real h_other h_kept h_set h_w h_book h_noteSort h_whose h_what h_noteIs h_fitting h_dawn h_likes h_walked h_came h_inn_creak h_inn_doorA h_inn_doorB h_inn_how h_inn_lies h_inn_isCold h_inn_falls h_inn_isFull h_inn_isTold h_inn_act h_inn_what h_inn_then h_inn_met h_inn_bed h_inn_dream h_inn_listens h_inn_name h_inn_nameSort h_inn_nameNumber v_thrown v_trouble v_where v_read v_taped v_size v_at v_sort v_place v_sign v_number v_fault v_wrongAt v_word v_marks v_notes v_inn_minutes v_inn_rooms v_inn_doors v_inn_things v_inn_dreams v_inn_sleepers v_inn_listeners v_inn_names x106_came v_inn_doorB v_walked v_inn_doorA v_inn_how v_inn_bed) 106 [] := by
                        intro n
                        induction n with
                        | zero => intro x106_2 x106_4 x106_came hf; exact (lp_0 hf).elim
                        | succ n ih106 =>
                          intro x106_2 x106_4 x106_came hf H locs ls hl hP hD hS
                          replace hf := lp_s hf
                          generalize lp (BX12_walksMore_106 j222 x76_3 v_walked v_inn_doorB v_inn_doorA) n = rec106 at ih106 hf
                          unfold BX12_walksMore_106 at hf
                          replace hf := un3_s hf
                          refine lv_iload (pc := 106) hx hb dX12_walksMore_106 (lv_at hl 4 rfl) ?_
                          refine lv_iconst (pc := 108) (v := 3) hx hb dX12_walksMore_108 (by decide) ?_
                          refine lv_icmp_ge (pc := 109) (tgt := 222) hx hb dX12_walksMore_109 (by decide) (fun c_109 => ?_) (fun c_109 => ?_)
                          · replace hf := it_t c_109 hf
                            exact hj222 x106_2 x106_came hf _ _ _ (lv_sub hl [0, 1, 2, 3] rfl) hP hD hS
                          · replace hf := it_f c_109 hf
                            refine lv_iload (pc := 112) hx hb dX12_walksMore_112 (lv_at hl 4 rfl) ?_
                            refine lv_iconst (pc := 114) (v := 1) hx hb dX12_walksMore_114 (by decide) ?_
                            refine jnK hf (fun j139 ej139 hf => ?_)
                            have hj139 : ∀ (x139_s0 : Int32) , j139 x139_s0 = some z → AT p l e (rmOf 0 0) s m args below meth c E A Q 0 0 7 [(0, .ref h), (1, .int p0), (2, .int x106_2), (3, .int x76_3), (4, .int x106_4)] (wX12_walksMore E h h_inn h_tape h_far h_from h_real h_other h_kept h_set h_w h_book h_noteSort h_whose h_what h_noteIs h_fitting h_dawn h_likes h_walked h_came h_inn_creak h_inn_doorA h_inn_doorB h_inn_how h_inn_lies h_inn_isCold h_inn_falls h_inn_isFull h_inn_isTold h_inn_act h_inn_what h_inn_then h_inn_met h_inn_bed h_inn_dream h_inn_listens h_inn_name h_inn_nameSort h_inn_nameNumber v_thrown v_trouble v_where v_read v_taped v_size v_at v_sort v_place v_sign v_number v_fault v_wrongAt v_word v_marks v_notes v_inn_minutes v_inn_rooms v_inn_doors v_inn_things v_inn_dreams v_inn_sleepers v_inn_listeners v_inn_names x106_came v_inn_doorB v_walked v_inn_doorA v_inn_how v_inn_bed) 139 [.int x139_s0] := by
                              intro x139_s0 hf H locs ls hl hP hD hS
                              rw [ej139] at hf
                              replace hf := un1_s hf
                              refine lv_istore (pc := 139) (lv' := [(5, .int x139_s0), (0, .ref h), (1, .int p0), (2, .int x106_2), (3, .int x76_3), (4, .int x106_4)]) hx hb dX12_walksMore_139 hl (by decide) rfl (fun ls hl => ?_)
                              refine lv_iload (pc := 141) hx hb dX12_walksMore_141 (lv_at hl 5 rfl) ?_
                              refine lv_iconst (pc := 143) (v := 1) hx hb dX12_walksMore_143 (by decide) ?_
                              refine jnK hf (fun j168 ej168 hf => ?_)
                              have hj168 : ∀ (x168_s0 : Int32) , j168 x168_s0 = some z → AT p l e (rmOf 0 0) s m args below meth c E A Q 0 0 7 [(0, .ref h), (1, .int p0), (2, .int x106_2), (3, .int x76_3), (4, .int x106_4), (5, .int x139_s0)] (wX12_walksMore E h h_inn h_tape h_far h_from h_real h_other h_kept h_set h_w h_book h_noteSort h_whose h_what h_noteIs h_fitting h_dawn h_likes h_walked h_came h_inn_creak h_inn_doorA h_inn_doorB h_inn_how h_inn_lies h_inn_isCold h_inn_falls h_inn_isFull h_inn_isTold h_inn_act h_inn_what h_inn_then h_inn_met h_inn_bed h_inn_dream h_inn_listens h_inn_name h_inn_nameSort h_inn_nameNumber v_thrown v_trouble v_where v_read v_taped v_size v_at v_sort v_place v_sign v_number v_fault v_wrongAt v_word v_marks v_notes v_inn_minutes v_inn_rooms v_inn_doors v_inn_things v_inn_dreams v_inn_sleepers v_inn_listeners v_inn_names x106_came v_inn_doorB v_walked v_inn_doorA v_inn_how v_inn_bed) 168 [.int x168_s0] := by
                                intro x168_s0 hf H locs ls hl hP hD hS
                                rw [ej168] at hf
                                replace hf := un1_s hf
                                refine lv_istore (pc := 168) (lv' := [(6, .int x168_s0), (0, .ref h), (1, .int p0), (2, .int x106_2), (3, .int x76_3), (4, .int x106_4), (5, .int x139_s0)]) hx hb dX12_walksMore_168 hl (by decide) rfl (fun ls hl => ?_)
                                refine lv_aload_n (pc := 170) hx hb dX12_walksMore_170 rfl (lv_at hl 1 rfl) ?_
                                refine r_get (pc := 171) C hP 0 rfl fl_X12_68 rfl dX12_walksMore_171 ?_
                                refine lv_iload (pc := 174) hx hb dX12_walksMore_174 (lv_at hl 6 rfl) ?_
                                obtain ⟨hi_176, hf⟩ := gd_s hf
                                refine r_iald (pc := 176) C hP 2 rfl hi_176 dX12_walksMore_176 ?_
                                refine lv_iconst (pc := 177) (v := (-1)) hx hb dX12_walksMore_177 (by decide) ?_
                                refine jnK hf (fun j216 ej216 hf => ?_)
                                have hj216 : ∀ (x216_2 : Int32) (x216_came : Nat → Int32) , j216 (x216_2, x216_came) = some z → AT p l e (rmOf 0 0) s m args below meth c E A Q 0 0 7 [(0, .ref h), (1, .int p0), (2, .int x216_2), (3, .int x76_3), (4, .int x106_4)] (wX12_walksMore E h h_inn h_tape h_far h_from h_real h_other h_kept h_set h_w h_book h_noteSort h_whose h_what h_noteIs h_fitting h_dawn h_likes h_walked h_came h_inn_creak h_inn_doorA h_inn_doorB h_inn_how h_inn_lies h_inn_isCold h_inn_falls h_inn_isFull h_inn_isTold h_inn_act h_inn_what h_inn_then h_inn_met h_inn_bed h_inn_dream h_inn_listens h_inn_name h_inn_nameSort h_inn_nameNumber v_thrown v_trouble v_where v_read v_taped v_size v_at v_sort v_place v_sign v_number v_fault v_wrongAt v_word v_marks v_notes v_inn_minutes v_inn_rooms v_inn_doors v_inn_things v_inn_dreams v_inn_sleepers v_inn_listeners v_inn_names x216_came v_inn_doorB v_walked v_inn_doorA v_inn_how v_inn_bed) 216 [] := by
                                  intro x216_2 x216_came hf H locs ls hl hP hD hS
                                  rw [ej216] at hf
                                  replace hf := un2_s hf
                                  refine lv_iinc (pc := 216) (v := x106_4 + 1) (lv' := [(4, .int (x106_4 + 1)), (0, .ref h), (1, .int p0), (2, .int x216_2), (3, .int x76_3)]) hx hb dX12_walksMore_216 hl (k := 4) rfl rfl (by decide) rfl (fun ls hl => ?_)
                                  refine lv_goto (pc := 219) (tgt := 106) hx hb dX12_walksMore_219 (by decide) ?_
                                  exact ih106 x216_2 (x106_4 + 1) x216_came hf _ _ _ (lv_sub hl [1, 2, 3, 4, 0] rfl) hP hD hS
                                clear ej216
                                refine lv_icmp_eq (pc := 178) (tgt := 216) hx hb dX12_walksMore_178 (by decide) (fun c_178 => ?_) (fun c_178 => ?_)
                                · replace hf := it_t c_178 hf
                                  exact hj216 x106_2 x106_came hf _ _ _ (lv_sub hl [1, 2, 3, 4, 5] rfl) hP hD hS
                                · replace hf := it_f c_178 hf
                                  refine lv_aload_n (pc := 181) hx hb dX12_walksMore_181 rfl (lv_at hl 1 rfl) ?_
                                  refine r_get (pc := 182) C hP 0 rfl fl_X12_68 rfl dX12_walksMore_182 ?_
                                  refine lv_iload (pc := 185) hx hb dX12_walksMore_185 (lv_at hl 0 rfl) ?_
                                  obtain ⟨hi_187, hf⟩ := gd_s hf
                                  refine r_iald (pc := 187) C hP 2 rfl hi_187 dX12_walksMore_187 ?_
                                  refine lv_iconst (pc := 188) (v := (-1)) hx hb dX12_walksMore_188 (by decide) ?_
                                  refine lv_icmp_ne (pc := 189) (tgt := 216) hx hb dX12_walksMore_189 (by decide) (fun c_189 => ?_) (fun c_189 => ?_)
                                  · replace hf := it_f c_189 hf
                                    exact hj216 x106_2 x106_came hf _ _ _ (lv_sub hl [1, 2, 3, 4, 5] rfl) hP hD hS
                                  · replace hf := it_t c_189 hf
                                    refine lv_aload_n (pc := 192) hx hb dX12_walksMore_192 rfl (lv_at hl 1 rfl) ?_
                                    refine r_get (pc := 193) C hP 0 rfl fl_X12_65 rfl dX12_walksMore_193 ?_
                                    refine lv_iload_n (pc := 196) hx hb dX12_walksMore_196 rfl (lv_at hl 4 rfl) ?_
                                    obtain ⟨hi_197, hf⟩ := gd_s hf
                                    refine r_iald (pc := 197) C hP 4 rfl hi_197 dX12_walksMore_197 ?_
                                    refine lv_iload (pc := 198) hx hb dX12_walksMore_198 (lv_at hl 5 rfl) ?_
                                    refine lv_icmp_ne (pc := 200) (tgt := 206) hx hb dX12_walksMore_200 (by decide) (fun c_200 => ?_) (fun c_200 => ?_)
                                    · replace hf := it_f c_200 hf
                                      refine lv_aload_n (pc := 206) hx hb dX12_walksMore_206 rfl (lv_at hl 1 rfl) ?_
                                      refine r_get (pc := 207) C hP 0 rfl fl_X12_68 rfl dX12_walksMore_207 ?_
                                      refine lv_iload (pc := 210) hx hb dX12_walksMore_210 (lv_at hl 0 rfl) ?_
                                      refine lv_iload_n (pc := 212) hx hb dX12_walksMore_212 rfl (lv_at hl 4 rfl) ?_
                                      obtain ⟨hi_213, hf⟩ := gd_s hf
                                      refine r_iast (pc := 213) (ws' := (wX12_walksMore E h h_inn h_tape h_far h_from h_real h_other h_kept h_set h_w h_book h_noteSort h_whose h_what h_noteIs h_fitting h_dawn h_likes h_walked h_came h_inn_creak h_inn_doorA h_inn_doorB h_inn_how h_inn_lies h_inn_isCold h_inn_falls h_inn_isFull h_inn_isTold h_inn_act h_inn_what h_inn_then h_inn_met h_inn_bed h_inn_dream h_inn_listens h_inn_name h_inn_nameSort h_inn_nameNumber v_thrown v_trouble v_where v_read v_taped v_size v_at v_sort v_place v_sign v_number v_fault v_wrongAt v_word v_marks v_notes v_inn_minutes v_inn_rooms v_inn_doors v_inn_things v_inn_dreams v_inn_sleepers v_inn_listeners v_inn_names (upd x106_came x168_s0.toNatClampNeg x76_3) v_inn_doorB v_walked v_inn_doorA v_inn_how v_inn_bed)) C hP hD hS 2 rfl hi_213 rfl dX12_walksMore_213 ?_
                                      clear hP hD hS; intro H locs hP hD hS
                                      refine lv_iconst (pc := 214) (v := 1) hx hb dX12_walksMore_214 (by decide) ?_
                                      refine lv_istore_n (pc := 215) (lv' := [(2, .int 1), (6, .int x168_s0), (0, .ref h), (1, .int p0), (3, .int x76_3), (4, .int x106_4), (5, .int x139_s0)]) hx hb dX12_walksMore_215 rfl hl (by decide) rfl (fun ls hl => ?_)
                                      exact hj216 1 (upd x106_came x168_s0.toNatClampNeg x76_3) hf _ _ _ (lv_sub hl [2, 3, 0, 4, 5] rfl) hP hD hS
                                    · replace hf := it_t c_200 hf
                                      refine lv_goto (pc := 203) (tgt := 216) hx hb dX12_walksMore_203 (by decide) ?_
                                      exact hj216 x106_2 x106_came hf _ _ _ (lv_sub hl [1, 2, 3, 4, 5] rfl) hP hD hS
                              clear ej168
                              refine lv_icmp_ne (pc := 144) (tgt := 159) hx hb dX12_walksMore_144 (by decide) (fun c_144 => ?_) (fun c_144 => ?_)
                              · replace hf := it_f c_144 hf
                                refine lv_aload_n (pc := 159) hx hb dX12_walksMore_159 rfl (lv_at hl 1 rfl) ?_
                                refine r_get (pc := 160) C hP 0 rfl fl_X12_358 rfl dX12_walksMore_160 ?_
                                refine r_get (pc := 163) C hP 1 rfl fl_X12_304 rfl dX12_walksMore_163 ?_
                                refine lv_iload_n (pc := 166) hx hb dX12_walksMore_166 rfl (lv_at hl 4 rfl) ?_
                                obtain ⟨hi_167, hf⟩ := gd_s hf
                                refine r_iald (pc := 167) C hP 5 rfl hi_167 dX12_walksMore_167 ?_
                                exact hj168 (v_inn_doorA x76_3.toNatClampNeg) hf _ _ _ (lv_sub hl [1, 2, 3, 4, 5, 0] rfl) hP hD hS
                              · replace hf := it_t c_144 hf
                                refine lv_aload_n (pc := 147) hx hb dX12_walksMore_147 rfl (lv_at hl 1 rfl) ?_
                                refine r_get (pc := 148) C hP 0 rfl fl_X12_358 rfl dX12_walksMore_148 ?_
                                refine r_get (pc := 151) C hP 1 rfl fl_X12_307 rfl dX12_walksMore_151 ?_
                                refine lv_iload_n (pc := 154) hx hb dX12_walksMore_154 rfl (lv_at hl 4 rfl) ?_
                                obtain ⟨hi_155, hf⟩ := gd_s hf
                                refine r_iald (pc := 155) C hP 3 rfl hi_155 dX12_walksMore_155 ?_
                                refine lv_goto (pc := 156) (tgt := 168) hx hb dX12_walksMore_156 (by decide) ?_
                                exact hj168 (v_inn_doorB x76_3.toNatClampNeg) hf _ _ _ (lv_sub hl [1, 2, 3, 4, 5, 0] rfl) hP hD hS
                            clear ej139
                            refine lv_icmp_ne (pc := 115) (tgt := 130) hx hb dX12_walksMore_115 (by decide) (fun c_115 => ?_) (fun c_115 => ?_)
                            · replace hf := it_f c_115 hf
                              refine lv_aload_n (pc := 130) hx hb dX12_walksMore_130 rfl (lv_at hl 0 rfl) ?_
                              refine r_get (pc := 131) C hP 0 rfl fl_X12_358 rfl dX12_walksMore_131 ?_
                              refine r_get (pc := 134) C hP 1 rfl fl_X12_307 rfl dX12_walksMore_134 ?_
                              refine lv_iload_n (pc := 137) hx hb dX12_walksMore_137 rfl (lv_at hl 3 rfl) ?_
                              obtain ⟨hi_138, hf⟩ := gd_s hf
                              refine r_iald (pc := 138) C hP 3 rfl hi_138 dX12_walksMore_138 ?_
                              exact hj139 (v_inn_doorB x76_3.toNatClampNeg) hf _ _ _ (lv_sub hl [0, 1, 2, 3, 4] rfl) hP hD hS
                            · replace hf := it_t c_115 hf
                              refine lv_aload_n (pc := 118) hx hb dX12_walksMore_118 rfl (lv_at hl 0 rfl) ?_
                              refine r_get (pc := 119) C hP 0 rfl fl_X12_358 rfl dX12_walksMore_119 ?_
                              refine r_get (pc := 122) C hP 1 rfl fl_X12_304 rfl dX12_walksMore_122 ?_
                              refine lv_iload_n (pc := 125) hx hb dX12_walksMore_125 rfl (lv_at hl 3 rfl) ?_
                              obtain ⟨hi_126, hf⟩ := gd_s hf
                              refine r_iald (pc := 126) C hP 5 rfl hi_126 dX12_walksMore_126 ?_
                              refine lv_goto (pc := 127) (tgt := 139) hx hb dX12_walksMore_127 (by decide) ?_
                              exact hj139 (v_inn_doorA x76_3.toNatClampNeg) hf _ _ _ (lv_sub hl [0, 1, 2, 3, 4] rfl) hP hD hS
                      exact key106 _ x76_2 1 x76_came hf _ _ _ (lv_sub hl [1, 2, 3, 4, 0] rfl) hP hD hS
                    · replace hf := it_t c_97 hf
                      refine lv_goto (pc := 100) (tgt := 222) hx hb dX12_walksMore_100 (by decide) ?_
                      exact hj222 x76_2 x76_came hf _ _ _ (lv_sub hl [0, 1, 2, 3] rfl) hP hD hS
              exact key76 _ 0 0 x58_came hf _ _ _ (lv_sub hl [2, 3, 1, 0] rfl) hP hD hS
      exact key58 _ 1 x56_came hf _ _ _ (lv_sub hl [1, 2, 0] rfl) hP hD hS
    clear eK56
    have key23 : ∀ (n : Nat) (x23_2 : Int32) (x23_came : Nat → Int32) , lp (BX12_walksMore_23 v_inn_sleepers v_inn_bed K56) n (x23_2, x23_came) = some z → AT p l e (rmOf 0 0) s m args below meth c E A Q 0 0 7 [(0, .ref h), (1, .int p0), (2, .int x23_2)] (wX12_walksMore E h h_inn h_tape h_far h_from h_real h_other h_kept h_set h_w h_book h_noteSort h_whose h_what h_noteIs h_fitting h_dawn h_likes h_walked h_came h_inn_creak h_inn_doorA h_inn_doorB h_inn_how h_inn_lies h_inn_isCold h_inn_falls h_inn_isFull h_inn_isTold h_inn_act h_inn_what h_inn_then h_inn_met h_inn_bed h_inn_dream h_inn_listens h_inn_name h_inn_nameSort h_inn_nameNumber v_thrown v_trouble v_where v_read v_taped v_size v_at v_sort v_place v_sign v_number v_fault v_wrongAt v_word v_marks v_notes v_inn_minutes v_inn_rooms v_inn_doors v_inn_things v_inn_dreams v_inn_sleepers v_inn_listeners v_inn_names x23_came v_inn_doorB v_walked v_inn_doorA v_inn_how v_inn_bed) 23 [] := by
      intro n
      induction n with
      | zero => intro x23_2 x23_came hf; exact (lp_0 hf).elim
      | succ n ih23 =>
        intro x23_2 x23_came hf H locs ls hl hP hD hS
        replace hf := lp_s hf
        generalize lp (BX12_walksMore_23 v_inn_sleepers v_inn_bed K56) n = rec23 at ih23 hf
        unfold BX12_walksMore_23 at hf
        replace hf := un2_s hf
        refine lv_iload_n (pc := 23) hx hb dX12_walksMore_23 rfl (lv_at hl 2 rfl) ?_
        refine lv_aload_n (pc := 24) hx hb dX12_walksMore_24 rfl (lv_at hl 0 rfl) ?_
        refine r_get (pc := 25) C hP 0 rfl fl_X12_358 rfl dX12_walksMore_25 ?_
        refine r_get (pc := 28) C hP 1 rfl fl_X12_247 rfl dX12_walksMore_28 ?_
        refine lv_icmp_ge (pc := 31) (tgt := 56) hx hb dX12_walksMore_31 (by decide) (fun c_31 => ?_) (fun c_31 => ?_)
        · replace hf := it_t c_31 hf
          exact hK56 x23_came hf _ _ _ (lv_sub hl [0, 1] rfl) hP hD hS
        · replace hf := it_f c_31 hf
          refine lv_aload_n (pc := 34) hx hb dX12_walksMore_34 rfl (lv_at hl 0 rfl) ?_
          refine r_get (pc := 35) C hP 0 rfl fl_X12_68 rfl dX12_walksMore_35 ?_
          refine lv_aload_n (pc := 38) hx hb dX12_walksMore_38 rfl (lv_at hl 0 rfl) ?_
          refine r_get (pc := 39) C hP 0 rfl fl_X12_358 rfl dX12_walksMore_39 ?_
          refine r_get (pc := 42) C hP 1 rfl fl_X12_342 rfl dX12_walksMore_42 ?_
          refine lv_iload_n (pc := 45) hx hb dX12_walksMore_45 rfl (lv_at hl 2 rfl) ?_
          obtain ⟨hi_46, hf⟩ := gd_s hf
          refine r_iald (pc := 46) C hP 7 rfl hi_46 dX12_walksMore_46 ?_
          refine lv_bipush (pc := 47) (v := 10) hx hb dX12_walksMore_47 (by decide) ?_
          obtain ⟨hi_49, hf⟩ := gd_s hf
          refine r_iast (pc := 49) (ws' := (wX12_walksMore E h h_inn h_tape h_far h_from h_real h_other h_kept h_set h_w h_book h_noteSort h_whose h_what h_noteIs h_fitting h_dawn h_likes h_walked h_came h_inn_creak h_inn_doorA h_inn_doorB h_inn_how h_inn_lies h_inn_isCold h_inn_falls h_inn_isFull h_inn_isTold h_inn_act h_inn_what h_inn_then h_inn_met h_inn_bed h_inn_dream h_inn_listens h_inn_name h_inn_nameSort h_inn_nameNumber v_thrown v_trouble v_where v_read v_taped v_size v_at v_sort v_place v_sign v_number v_fault v_wrongAt v_word v_marks v_notes v_inn_minutes v_inn_rooms v_inn_doors v_inn_things v_inn_dreams v_inn_sleepers v_inn_listeners v_inn_names (upd x23_came (v_inn_bed x23_2.toNatClampNeg).toNatClampNeg 10) v_inn_doorB v_walked v_inn_doorA v_inn_how v_inn_bed)) C hP hD hS 2 rfl hi_49 rfl dX12_walksMore_49 ?_
          clear hP hD hS; intro H locs hP hD hS
          refine lv_iinc (pc := 50) (v := x23_2 + 1) (lv' := [(2, .int (x23_2 + 1)), (0, .ref h), (1, .int p0)]) hx hb dX12_walksMore_50 hl (k := 2) rfl rfl (by decide) rfl (fun ls hl => ?_)
          refine lv_goto (pc := 53) (tgt := 23) hx hb dX12_walksMore_53 (by decide) ?_
          exact ih23 (x23_2 + 1) (upd x23_came (v_inn_bed x23_2.toNatClampNeg).toNatClampNeg 10) hf _ _ _ (lv_sub hl [1, 2, 0] rfl) hP hD hS
    exact key23 _ 0 x21_came hf _ _ _ (lv_sub hl [1, 2, 0] rfl) hP hD hS
  clear eK21
  have key2 : ∀ (n : Nat) (x2_2 : Int32) (x2_came : Nat → Int32) , lp (BX12_walksMore_2 K21) n (x2_2, x2_came) = some z → AT p l e (rmOf 0 0) s m args below meth c E A Q 0 0 7 [(0, .ref h), (1, .int p0), (2, .int x2_2)] (wX12_walksMore E h h_inn h_tape h_far h_from h_real h_other h_kept h_set h_w h_book h_noteSort h_whose h_what h_noteIs h_fitting h_dawn h_likes h_walked h_came h_inn_creak h_inn_doorA h_inn_doorB h_inn_how h_inn_lies h_inn_isCold h_inn_falls h_inn_isFull h_inn_isTold h_inn_act h_inn_what h_inn_then h_inn_met h_inn_bed h_inn_dream h_inn_listens h_inn_name h_inn_nameSort h_inn_nameNumber v_thrown v_trouble v_where v_read v_taped v_size v_at v_sort v_place v_sign v_number v_fault v_wrongAt v_word v_marks v_notes v_inn_minutes v_inn_rooms v_inn_doors v_inn_things v_inn_dreams v_inn_sleepers v_inn_listeners v_inn_names x2_came v_inn_doorB v_walked v_inn_doorA v_inn_how v_inn_bed) 2 [] := by
    intro n
    induction n with
    | zero => intro x2_2 x2_came hf; exact (lp_0 hf).elim
    | succ n ih2 =>
      intro x2_2 x2_came hf H locs ls hl hP hD hS
      replace hf := lp_s hf
      generalize lp (BX12_walksMore_2 K21) n = rec2 at ih2 hf
      unfold BX12_walksMore_2 at hf
      replace hf := un2_s hf
      refine lv_iload_n (pc := 2) hx hb dX12_walksMore_2 rfl (lv_at hl 2 rfl) ?_
      refine lv_bipush (pc := 3) (v := 8) hx hb dX12_walksMore_3 (by decide) ?_
      refine lv_icmp_ge (pc := 5) (tgt := 21) hx hb dX12_walksMore_5 (by decide) (fun c_5 => ?_) (fun c_5 => ?_)
      · replace hf := it_t c_5 hf
        exact hK21 x2_came hf _ _ _ (lv_sub hl [0, 1] rfl) hP hD hS
      · replace hf := it_f c_5 hf
        refine lv_aload_n (pc := 8) hx hb dX12_walksMore_8 rfl (lv_at hl 0 rfl) ?_
        refine r_get (pc := 9) C hP 0 rfl fl_X12_68 rfl dX12_walksMore_9 ?_
        refine lv_iload_n (pc := 12) hx hb dX12_walksMore_12 rfl (lv_at hl 2 rfl) ?_
        refine lv_iconst (pc := 13) (v := (-1)) hx hb dX12_walksMore_13 (by decide) ?_
        obtain ⟨hi_14, hf⟩ := gd_s hf
        refine r_iast (pc := 14) (ws' := (wX12_walksMore E h h_inn h_tape h_far h_from h_real h_other h_kept h_set h_w h_book h_noteSort h_whose h_what h_noteIs h_fitting h_dawn h_likes h_walked h_came h_inn_creak h_inn_doorA h_inn_doorB h_inn_how h_inn_lies h_inn_isCold h_inn_falls h_inn_isFull h_inn_isTold h_inn_act h_inn_what h_inn_then h_inn_met h_inn_bed h_inn_dream h_inn_listens h_inn_name h_inn_nameSort h_inn_nameNumber v_thrown v_trouble v_where v_read v_taped v_size v_at v_sort v_place v_sign v_number v_fault v_wrongAt v_word v_marks v_notes v_inn_minutes v_inn_rooms v_inn_doors v_inn_things v_inn_dreams v_inn_sleepers v_inn_listeners v_inn_names (upd x2_came x2_2.toNatClampNeg (-1)) v_inn_doorB v_walked v_inn_doorA v_inn_how v_inn_bed)) C hP hD hS 2 rfl hi_14 rfl dX12_walksMore_14 ?_
        clear hP hD hS; intro H locs hP hD hS
        refine lv_iinc (pc := 15) (v := x2_2 + 1) (lv' := [(2, .int (x2_2 + 1)), (0, .ref h), (1, .int p0)]) hx hb dX12_walksMore_15 hl (k := 2) rfl rfl (by decide) rfl (fun ls hl => ?_)
        refine lv_goto (pc := 18) (tgt := 2) hx hb dX12_walksMore_18 (by decide) ?_
        exact ih2 (x2_2 + 1) (upd x2_came x2_2.toNatClampNeg (-1)) hf _ _ _ (lv_sub hl [1, 2, 0] rfl) hP hD hS
  exact key2 _ 0 v_came hf _ _ _ (lv_sub hl [1, 2, 0] rfl) hP hD hS
